theorem dX10_isDrive_0 : decode cX10_isDrive 0 = .ok (.iload_n 1, 1) := by decide +kernel
theorem dX10_isDrive_1 : decode cX10_isDrive 1 = .ok (.i2l, 1) := by decide +kernel
theorem dX10_isDrive_2 : decode cX10_isDrive 2 = .ok (.lconst 0, 1) := by decide +kernel
theorem dX10_isDrive_3 : decode cX10_isDrive 3 = .ok (.aload_n 0, 1) := by decide +kernel
theorem dX10_isDrive_4 : decode cX10_isDrive 4 = .ok (.getfield 34, 3) := by decide +kernel
theorem dX10_isDrive_7 : decode cX10_isDrive 7 = .ok (.iconst 3, 1) := by decide +kernel
theorem dX10_isDrive_8 : decode cX10_isDrive 8 = .ok (.iaload, 1) := by decide +kernel
theorem dX10_isDrive_9 : decode cX10_isDrive 9 = .ok (.iconst 1, 1) := by decide +kernel
theorem dX10_isDrive_10 : decode cX10_isDrive 10 = .ok (.isub, 1) := by decide +kernel
theorem dX10_isDrive_11 : decode cX10_isDrive 11 = .ok (.i2l, 1) := by decide +kernel
theorem dX10_isDrive_12 : decode cX10_isDrive 12 = .ok (.invokestatic 109, 3) := by decide +kernel
theorem dX10_isDrive_15 : decode cX10_isDrive 15 = .ok (.ireturn, 1) := by decide +kernel
theorem dX10_isHour_0 : decode cX10_isHour 0 = .ok (.iload_n 0, 1) := by decide +kernel
theorem dX10_isHour_1 : decode cX10_isHour 1 = .ok (.i2l, 1) := by decide +kernel
theorem dX10_isHour_2 : decode cX10_isHour 2 = .ok (.lconst 0, 1) := by decide +kernel
theorem dX10_isHour_3 : decode cX10_isHour 3 = .ok (.ldc2_w 283, 3) := by decide +kernel
theorem dX10_isHour_6 : decode cX10_isHour 6 = .ok (.invokestatic 109, 3) := by decide +kernel
theorem dX10_isHour_9 : decode cX10_isHour 9 = .ok (.ireturn, 1) := by decide +kernel
theorem dX10_drive_0 : decode cX10_drive 0 = .ok (.aload_n 0, 1) := by decide +kernel
theorem dX10_drive_1 : decode cX10_drive 1 = .ok (.iconst 0, 1) := by decide +kernel
theorem dX10_drive_2 : decode cX10_drive 2 = .ok (.putfield 104, 3) := by decide +kernel
theorem dX10_drive_5 : decode cX10_drive 5 = .ok (.aload_n 0, 1) := by decide +kernel
theorem dX10_drive_6 : decode cX10_drive 6 = .ok (.iload_n 1, 1) := by decide +kernel
theorem dX10_drive_7 : decode cX10_drive 7 = .ok (.invokevirtual 288, 3) := by decide +kernel
theorem dX10_drive_10 : decode cX10_drive 10 = .ok (.ifCond .eq 24, 3) := by decide +kernel
theorem dX10_drive_13 : decode cX10_drive 13 = .ok (.iload_n 2, 1) := by decide +kernel
theorem dX10_drive_14 : decode cX10_drive 14 = .ok (.i2l, 1) := by decide +kernel
theorem dX10_drive_15 : decode cX10_drive 15 = .ok (.lconst 0, 1) := by decide +kernel
theorem dX10_drive_16 : decode cX10_drive 16 = .ok (.ldc2_w 291, 3) := by decide +kernel
theorem dX10_drive_19 : decode cX10_drive 19 = .ok (.invokestatic 109, 3) := by decide +kernel
theorem dX10_drive_22 : decode cX10_drive 22 = .ok (.ifCond .eq 12, 3) := by decide +kernel
theorem dX10_drive_25 : decode cX10_drive 25 = .ok (.aload_n 0, 1) := by decide +kernel
theorem dX10_drive_26 : decode cX10_drive 26 = .ok (.iload_n 1, 1) := by decide +kernel
theorem dX10_drive_27 : decode cX10_drive 27 = .ok (.iload_n 2, 1) := by decide +kernel
theorem dX10_drive_28 : decode cX10_drive 28 = .ok (.invokevirtual 285, 3) := by decide +kernel
theorem dX10_drive_31 : decode cX10_drive 31 = .ok (.goto 5, 3) := by decide +kernel
theorem dX10_drive_34 : decode cX10_drive 34 = .ok (.bipush (-2), 2) := by decide +kernel
theorem dX10_drive_36 : decode cX10_drive 36 = .ok (.ireturn, 1) := by decide +kernel
theorem dX10_goes_0 : decode cX10_goes 0 = .ok (.aload_n 0, 1) := by decide +kernel
theorem dX10_goes_1 : decode cX10_goes 1 = .ok (.iconst 0, 1) := by decide +kernel
theorem dX10_goes_2 : decode cX10_goes 2 = .ok (.putfield 104, 3) := by decide +kernel
theorem dX10_goes_5 : decode cX10_goes 5 = .ok (.aload_n 0, 1) := by decide +kernel
theorem dX10_goes_6 : decode cX10_goes 6 = .ok (.iload_n 1, 1) := by decide +kernel
theorem dX10_goes_7 : decode cX10_goes 7 = .ok (.invokevirtual 288, 3) := by decide +kernel
theorem dX10_goes_10 : decode cX10_goes 10 = .ok (.ifCond .ne 8, 3) := by decide +kernel
theorem dX10_goes_13 : decode cX10_goes 13 = .ok (.bipush (-2), 2) := by decide +kernel
theorem dX10_goes_15 : decode cX10_goes 15 = .ok (.goto 24, 3) := by decide +kernel
theorem dX10_goes_18 : decode cX10_goes 18 = .ok (.aload_n 0, 1) := by decide +kernel
theorem dX10_goes_19 : decode cX10_goes 19 = .ok (.iload_n 1, 1) := by decide +kernel
theorem dX10_goes_20 : decode cX10_goes 20 = .ok (.invokevirtual 293, 3) := by decide +kernel
theorem dX10_goes_23 : decode cX10_goes 23 = .ok (.aload_n 0, 1) := by decide +kernel
theorem dX10_goes_24 : decode cX10_goes 24 = .ok (.invokevirtual 296, 3) := by decide +kernel
theorem dX10_goes_27 : decode cX10_goes 27 = .ok (.if_icmp .ge 11, 3) := by decide +kernel
theorem dX10_goes_30 : decode cX10_goes 30 = .ok (.aload_n 0, 1) := by decide +kernel
theorem dX10_goes_31 : decode cX10_goes 31 = .ok (.iload_n 1, 1) := by decide +kernel
theorem dX10_goes_32 : decode cX10_goes 32 = .ok (.invokevirtual 293, 3) := by decide +kernel
theorem dX10_goes_35 : decode cX10_goes 35 = .ok (.goto 4, 3) := by decide +kernel
theorem dX10_goes_38 : decode cX10_goes 38 = .ok (.iconst (-1), 1) := by decide +kernel
theorem dX10_goes_39 : decode cX10_goes 39 = .ok (.ireturn, 1) := by decide +kernel
theorem dX10_law_0 : decode cX10_law 0 = .ok (.aload_n 0, 1) := by decide +kernel
theorem dX10_law_1 : decode cX10_law 1 = .ok (.iconst 0, 1) := by decide +kernel
theorem dX10_law_2 : decode cX10_law 2 = .ok (.putfield 104, 3) := by decide +kernel
theorem dX10_law_5 : decode cX10_law 5 = .ok (.aload_n 0, 1) := by decide +kernel
theorem dX10_law_6 : decode cX10_law 6 = .ok (.invokevirtual 280, 3) := by decide +kernel
theorem dX10_law_9 : decode cX10_law 9 = .ok (.ifCond .eq 58, 3) := by decide +kernel
theorem dX10_law_12 : decode cX10_law 12 = .ok (.iload_n 1, 1) := by decide +kernel
theorem dX10_law_13 : decode cX10_law 13 = .ok (.i2l, 1) := by decide +kernel
theorem dX10_law_14 : decode cX10_law 14 = .ok (.lconst 0, 1) := by decide +kernel
theorem dX10_law_15 : decode cX10_law 15 = .ok (.ldc2_w 300, 3) := by decide +kernel
theorem dX10_law_18 : decode cX10_law 18 = .ok (.invokestatic 109, 3) := by decide +kernel
theorem dX10_law_21 : decode cX10_law 21 = .ok (.ifCond .eq 46, 3) := by decide +kernel
theorem dX10_law_24 : decode cX10_law 24 = .ok (.iload_n 2, 1) := by decide +kernel
theorem dX10_law_25 : decode cX10_law 25 = .ok (.i2l, 1) := by decide +kernel
theorem dX10_law_26 : decode cX10_law 26 = .ok (.iload_n 1, 1) := by decide +kernel
theorem dX10_law_27 : decode cX10_law 27 = .ok (.iconst 3, 1) := by decide +kernel
theorem dX10_law_28 : decode cX10_law 28 = .ok (.if_icmp .ne 9, 3) := by decide +kernel
theorem dX10_law_31 : decode cX10_law 31 = .ok (.ldc2_w 302, 3) := by decide +kernel
theorem dX10_law_34 : decode cX10_law 34 = .ok (.goto 4, 3) := by decide +kernel
theorem dX10_law_37 : decode cX10_law 37 = .ok (.lconst 0, 1) := by decide +kernel
theorem dX10_law_38 : decode cX10_law 38 = .ok (.iload_n 1, 1) := by decide +kernel
theorem dX10_law_39 : decode cX10_law 39 = .ok (.iconst 3, 1) := by decide +kernel
theorem dX10_law_40 : decode cX10_law 40 = .ok (.if_icmp .ne 9, 3) := by decide +kernel
theorem dX10_law_43 : decode cX10_law 43 = .ok (.ldc2_w 304, 3) := by decide +kernel
theorem dX10_law_46 : decode cX10_law 46 = .ok (.goto 15, 3) := by decide +kernel
theorem dX10_law_49 : decode cX10_law 49 = .ok (.iload_n 1, 1) := by decide +kernel
theorem dX10_law_50 : decode cX10_law 50 = .ok (.iconst 4, 1) := by decide +kernel
theorem dX10_law_51 : decode cX10_law 51 = .ok (.if_icmp .ne 9, 3) := by decide +kernel
theorem dX10_law_54 : decode cX10_law 54 = .ok (.ldc2_w 306, 3) := by decide +kernel
theorem dX10_law_57 : decode cX10_law 57 = .ok (.goto 4, 3) := by decide +kernel
theorem dX10_law_60 : decode cX10_law 60 = .ok (.lconst 1, 1) := by decide +kernel
theorem dX10_law_61 : decode cX10_law 61 = .ok (.invokestatic 109, 3) := by decide +kernel
theorem dX10_law_64 : decode cX10_law 64 = .ok (.ifCond .ne 6, 3) := by decide +kernel
theorem dX10_law_67 : decode cX10_law 67 = .ok (.bipush (-2), 2) := by decide +kernel
theorem dX10_law_69 : decode cX10_law 69 = .ok (.ireturn, 1) := by decide +kernel
theorem dX10_law_70 : decode cX10_law 70 = .ok (.aload_n 0, 1) := by decide +kernel
theorem dX10_law_71 : decode cX10_law 71 = .ok (.getfield 37, 3) := by decide +kernel
theorem dX10_law_74 : decode cX10_law 74 = .ok (.iload_n 1, 1) := by decide +kernel
theorem dX10_law_75 : decode cX10_law 75 = .ok (.iaload, 1) := by decide +kernel
theorem dX10_law_76 : decode cX10_law 76 = .ok (.istore_n 3, 1) := by decide +kernel
theorem dX10_law_77 : decode cX10_law 77 = .ok (.aload_n 0, 1) := by decide +kernel
theorem dX10_law_78 : decode cX10_law 78 = .ok (.getfield 37, 3) := by decide +kernel
theorem dX10_law_81 : decode cX10_law 81 = .ok (.iload_n 1, 1) := by decide +kernel
theorem dX10_law_82 : decode cX10_law 82 = .ok (.iload_n 2, 1) := by decide +kernel
theorem dX10_law_83 : decode cX10_law 83 = .ok (.iastore, 1) := by decide +kernel
theorem dX10_law_84 : decode cX10_law 84 = .ok (.iload_n 3, 1) := by decide +kernel
theorem dX10_law_85 : decode cX10_law 85 = .ok (.ireturn, 1) := by decide +kernel
theorem dX10_sets_0 : decode cX10_sets 0 = .ok (.aload_n 0, 1) := by decide +kernel
theorem dX10_sets_1 : decode cX10_sets 1 = .ok (.iconst 0, 1) := by decide +kernel
theorem dX10_sets_2 : decode cX10_sets 2 = .ok (.putfield 104, 3) := by decide +kernel
theorem dX10_sets_5 : decode cX10_sets 5 = .ok (.aload_n 0, 1) := by decide +kernel
theorem dX10_sets_6 : decode cX10_sets 6 = .ok (.iload_n 1, 1) := by decide +kernel
theorem dX10_sets_7 : decode cX10_sets 7 = .ok (.invokevirtual 288, 3) := by decide +kernel
theorem dX10_sets_10 : decode cX10_sets 10 = .ok (.ifCond .eq 18, 3) := by decide +kernel
theorem dX10_sets_13 : decode cX10_sets 13 = .ok (.aload_n 0, 1) := by decide +kernel
theorem dX10_sets_14 : decode cX10_sets 14 = .ok (.iload_n 2, 1) := by decide +kernel
theorem dX10_sets_15 : decode cX10_sets 15 = .ok (.invokevirtual 308, 3) := by decide +kernel
theorem dX10_sets_18 : decode cX10_sets 18 = .ok (.ifCond .eq 10, 3) := by decide +kernel
theorem dX10_sets_21 : decode cX10_sets 21 = .ok (.iload_n 3, 1) := by decide +kernel
theorem dX10_sets_22 : decode cX10_sets 22 = .ok (.invokestatic 311, 3) := by decide +kernel
theorem dX10_sets_25 : decode cX10_sets 25 = .ok (.ifCond .ne 6, 3) := by decide +kernel
theorem dX10_sets_28 : decode cX10_sets 28 = .ok (.bipush (-2), 2) := by decide +kernel
theorem dX10_sets_30 : decode cX10_sets 30 = .ok (.ireturn, 1) := by decide +kernel
theorem dX10_sets_31 : decode cX10_sets 31 = .ok (.bipush 100, 2) := by decide +kernel
theorem dX10_sets_33 : decode cX10_sets 33 = .ok (.aload_n 0, 1) := by decide +kernel
theorem dX10_sets_34 : decode cX10_sets 34 = .ok (.iload_n 1, 1) := by decide +kernel
theorem dX10_sets_35 : decode cX10_sets 35 = .ok (.iconst 1, 1) := by decide +kernel
theorem dX10_sets_36 : decode cX10_sets 36 = .ok (.invokevirtual 285, 3) := by decide +kernel
theorem dX10_sets_39 : decode cX10_sets 39 = .ok (.imul, 1) := by decide +kernel
theorem dX10_sets_40 : decode cX10_sets 40 = .ok (.aload_n 0, 1) := by decide +kernel
theorem dX10_sets_41 : decode cX10_sets 41 = .ok (.iload_n 1, 1) := by decide +kernel
theorem dX10_sets_42 : decode cX10_sets 42 = .ok (.iconst 3, 1) := by decide +kernel
theorem dX10_sets_43 : decode cX10_sets 43 = .ok (.invokevirtual 285, 3) := by decide +kernel
theorem dX10_sets_46 : decode cX10_sets 46 = .ok (.iadd, 1) := by decide +kernel
theorem dX10_sets_47 : decode cX10_sets 47 = .ok (.istore 4, 2) := by decide +kernel
theorem dX10_sets_49 : decode cX10_sets 49 = .ok (.aload_n 0, 1) := by decide +kernel
theorem dX10_sets_50 : decode cX10_sets 50 = .ok (.iload_n 1, 1) := by decide +kernel
theorem dX10_sets_51 : decode cX10_sets 51 = .ok (.iload_n 2, 1) := by decide +kernel
theorem dX10_sets_52 : decode cX10_sets 52 = .ok (.iload_n 3, 1) := by decide +kernel
theorem dX10_sets_53 : decode cX10_sets 53 = .ok (.invokevirtual 314, 3) := by decide +kernel
theorem dX10_sets_56 : decode cX10_sets 56 = .ok (.iload 4, 2) := by decide +kernel
theorem dX10_sets_58 : decode cX10_sets 58 = .ok (.ireturn, 1) := by decide +kernel
theorem dX10_counter_0 : decode cX10_counter 0 = .ok (.aload_n 0, 1) := by decide +kernel
theorem dX10_counter_1 : decode cX10_counter 1 = .ok (.iconst 0, 1) := by decide +kernel
theorem dX10_counter_2 : decode cX10_counter 2 = .ok (.putfield 104, 3) := by decide +kernel
theorem dX10_counter_5 : decode cX10_counter 5 = .ok (.aload_n 0, 1) := by decide +kernel
theorem dX10_counter_6 : decode cX10_counter 6 = .ok (.iload_n 1, 1) := by decide +kernel
theorem dX10_counter_7 : decode cX10_counter 7 = .ok (.invokevirtual 308, 3) := by decide +kernel
theorem dX10_counter_10 : decode cX10_counter 10 = .ok (.ifCond .eq 18, 3) := by decide +kernel
theorem dX10_counter_13 : decode cX10_counter 13 = .ok (.aload_n 0, 1) := by decide +kernel
theorem dX10_counter_14 : decode cX10_counter 14 = .ok (.iload_n 2, 1) := by decide +kernel
theorem dX10_counter_15 : decode cX10_counter 15 = .ok (.invokevirtual 381, 3) := by decide +kernel
theorem dX10_counter_18 : decode cX10_counter 18 = .ok (.ifCond .eq 10, 3) := by decide +kernel
theorem dX10_counter_21 : decode cX10_counter 21 = .ok (.iload_n 3, 1) := by decide +kernel
theorem dX10_counter_22 : decode cX10_counter 22 = .ok (.invokestatic 311, 3) := by decide +kernel
theorem dX10_counter_25 : decode cX10_counter 25 = .ok (.ifCond .ne 6, 3) := by decide +kernel
theorem dX10_counter_28 : decode cX10_counter 28 = .ok (.bipush (-2), 2) := by decide +kernel
theorem dX10_counter_30 : decode cX10_counter 30 = .ok (.ireturn, 1) := by decide +kernel
theorem dX10_counter_31 : decode cX10_counter 31 = .ok (.aload_n 0, 1) := by decide +kernel
theorem dX10_counter_32 : decode cX10_counter 32 = .ok (.invokevirtual 372, 3) := by decide +kernel
theorem dX10_counter_35 : decode cX10_counter 35 = .ok (.aload_n 0, 1) := by decide +kernel
theorem dX10_counter_36 : decode cX10_counter 36 = .ok (.bipush 24, 2) := by decide +kernel
theorem dX10_counter_38 : decode cX10_counter 38 = .ok (.iload_n 2, 1) := by decide +kernel
theorem dX10_counter_39 : decode cX10_counter 39 = .ok (.imul, 1) := by decide +kernel
theorem dX10_counter_40 : decode cX10_counter 40 = .ok (.iload_n 3, 1) := by decide +kernel
theorem dX10_counter_41 : decode cX10_counter 41 = .ok (.iadd, 1) := by decide +kernel
theorem dX10_counter_42 : decode cX10_counter 42 = .ok (.putfield 354, 3) := by decide +kernel
theorem dX10_counter_45 : decode cX10_counter 45 = .ok (.aload_n 0, 1) := by decide +kernel
theorem dX10_counter_46 : decode cX10_counter 46 = .ok (.invokevirtual 375, 3) := by decide +kernel
theorem dX10_counter_49 : decode cX10_counter 49 = .ok (.aload_n 0, 1) := by decide +kernel
theorem dX10_counter_50 : decode cX10_counter 50 = .ok (.iload_n 2, 1) := by decide +kernel
theorem dX10_counter_51 : decode cX10_counter 51 = .ok (.invokevirtual 363, 3) := by decide +kernel
theorem dX10_counter_54 : decode cX10_counter 54 = .ok (.aload_n 0, 1) := by decide +kernel
theorem dX10_counter_55 : decode cX10_counter 55 = .ok (.getfield 59, 3) := by decide +kernel
theorem dX10_counter_58 : decode cX10_counter 58 = .ok (.aload_n 0, 1) := by decide +kernel
theorem dX10_counter_59 : decode cX10_counter 59 = .ok (.iload_n 1, 1) := by decide +kernel
theorem dX10_counter_60 : decode cX10_counter 60 = .ok (.invokevirtual 334, 3) := by decide +kernel
theorem dX10_counter_63 : decode cX10_counter 63 = .ok (.iaload, 1) := by decide +kernel
theorem dX10_counter_64 : decode cX10_counter 64 = .ok (.ireturn, 1) := by decide +kernel
theorem dX10_through_0 : decode cX10_through 0 = .ok (.aload_n 0, 1) := by decide +kernel
theorem dX10_through_1 : decode cX10_through 1 = .ok (.iconst 0, 1) := by decide +kernel
theorem dX10_through_2 : decode cX10_through 2 = .ok (.putfield 104, 3) := by decide +kernel
theorem dX10_through_5 : decode cX10_through 5 = .ok (.aload_n 0, 1) := by decide +kernel
theorem dX10_through_6 : decode cX10_through 6 = .ok (.iload_n 1, 1) := by decide +kernel
theorem dX10_through_7 : decode cX10_through 7 = .ok (.invokevirtual 308, 3) := by decide +kernel
theorem dX10_through_10 : decode cX10_through 10 = .ok (.ifCond .eq 21, 3) := by decide +kernel
theorem dX10_through_13 : decode cX10_through 13 = .ok (.aload_n 0, 1) := by decide +kernel
theorem dX10_through_14 : decode cX10_through 14 = .ok (.iload_n 2, 1) := by decide +kernel
theorem dX10_through_15 : decode cX10_through 15 = .ok (.invokevirtual 381, 3) := by decide +kernel
theorem dX10_through_18 : decode cX10_through 18 = .ok (.ifCond .eq 13, 3) := by decide +kernel
theorem dX10_through_21 : decode cX10_through 21 = .ok (.iload_n 3, 1) := by decide +kernel
theorem dX10_through_22 : decode cX10_through 22 = .ok (.i2l, 1) := by decide +kernel
theorem dX10_through_23 : decode cX10_through 23 = .ok (.lconst 0, 1) := by decide +kernel
theorem dX10_through_24 : decode cX10_through 24 = .ok (.lconst 1, 1) := by decide +kernel
theorem dX10_through_25 : decode cX10_through 25 = .ok (.invokestatic 109, 3) := by decide +kernel
theorem dX10_through_28 : decode cX10_through 28 = .ok (.ifCond .ne 6, 3) := by decide +kernel
theorem dX10_through_31 : decode cX10_through 31 = .ok (.bipush (-2), 2) := by decide +kernel
theorem dX10_through_33 : decode cX10_through 33 = .ok (.ireturn, 1) := by decide +kernel
theorem dX10_through_34 : decode cX10_through 34 = .ok (.aload_n 0, 1) := by decide +kernel
theorem dX10_through_35 : decode cX10_through 35 = .ok (.invokevirtual 384, 3) := by decide +kernel
theorem dX10_through_38 : decode cX10_through 38 = .ok (.iload_n 3, 1) := by decide +kernel
theorem dX10_through_39 : decode cX10_through 39 = .ok (.ifCond .ne 17, 3) := by decide +kernel
theorem dX10_through_42 : decode cX10_through 42 = .ok (.aload_n 0, 1) := by decide +kernel
theorem dX10_through_43 : decode cX10_through 43 = .ok (.getfield 65, 3) := by decide +kernel
theorem dX10_through_46 : decode cX10_through 46 = .ok (.bipush 9, 2) := by decide +kernel
theorem dX10_through_48 : decode cX10_through 48 = .ok (.iload_n 1, 1) := by decide +kernel
theorem dX10_through_49 : decode cX10_through 49 = .ok (.imul, 1) := by decide +kernel
theorem dX10_through_50 : decode cX10_through 50 = .ok (.iload_n 2, 1) := by decide +kernel
theorem dX10_through_51 : decode cX10_through 51 = .ok (.iadd, 1) := by decide +kernel
theorem dX10_through_52 : decode cX10_through 52 = .ok (.iaload, 1) := by decide +kernel
theorem dX10_through_53 : decode cX10_through 53 = .ok (.goto 14, 3) := by decide +kernel
theorem dX10_through_56 : decode cX10_through 56 = .ok (.aload_n 0, 1) := by decide +kernel
theorem dX10_through_57 : decode cX10_through 57 = .ok (.getfield 68, 3) := by decide +kernel
theorem dX10_through_60 : decode cX10_through 60 = .ok (.bipush 9, 2) := by decide +kernel
theorem dX10_through_62 : decode cX10_through 62 = .ok (.iload_n 1, 1) := by decide +kernel
theorem dX10_through_63 : decode cX10_through 63 = .ok (.imul, 1) := by decide +kernel
theorem dX10_through_64 : decode cX10_through 64 = .ok (.iload_n 2, 1) := by decide +kernel
theorem dX10_through_65 : decode cX10_through 65 = .ok (.iadd, 1) := by decide +kernel
theorem dX10_through_66 : decode cX10_through 66 = .ok (.iaload, 1) := by decide +kernel
theorem dX10_through_67 : decode cX10_through 67 = .ok (.ireturn, 1) := by decide +kernel
theorem dX10_dues_0 : decode cX10_dues 0 = .ok (.aload_n 0, 1) := by decide +kernel
theorem dX10_dues_1 : decode cX10_dues 1 = .ok (.iconst 0, 1) := by decide +kernel
theorem dX10_dues_2 : decode cX10_dues 2 = .ok (.putfield 104, 3) := by decide +kernel
theorem dX10_dues_5 : decode cX10_dues 5 = .ok (.aload_n 0, 1) := by decide +kernel
theorem dX10_dues_6 : decode cX10_dues 6 = .ok (.invokevirtual 280, 3) := by decide +kernel
theorem dX10_dues_9 : decode cX10_dues 9 = .ok (.ifCond .ne 6, 3) := by decide +kernel
theorem dX10_dues_12 : decode cX10_dues 12 = .ok (.bipush (-2), 2) := by decide +kernel
theorem dX10_dues_14 : decode cX10_dues 14 = .ok (.ireturn, 1) := by decide +kernel
theorem dX10_dues_15 : decode cX10_dues 15 = .ok (.aload_n 0, 1) := by decide +kernel
theorem dX10_dues_16 : decode cX10_dues 16 = .ok (.invokevirtual 384, 3) := by decide +kernel
theorem dX10_dues_19 : decode cX10_dues 19 = .ok (.aload_n 0, 1) := by decide +kernel
theorem dX10_dues_20 : decode cX10_dues 20 = .ok (.getfield 328, 3) := by decide +kernel
theorem dX10_dues_23 : decode cX10_dues 23 = .ok (.ireturn, 1) := by decide +kernel
theorem dX10_due_0 : decode cX10_due 0 = .ok (.aload_n 0, 1) := by decide +kernel
theorem dX10_due_1 : decode cX10_due 1 = .ok (.iconst 0, 1) := by decide +kernel
theorem dX10_due_2 : decode cX10_due 2 = .ok (.putfield 104, 3) := by decide +kernel
theorem dX10_due_5 : decode cX10_due 5 = .ok (.aload_n 0, 1) := by decide +kernel
theorem dX10_due_6 : decode cX10_due 6 = .ok (.invokevirtual 280, 3) := by decide +kernel
theorem dX10_due_9 : decode cX10_due 9 = .ok (.ifCond .eq 15, 3) := by decide +kernel
theorem dX10_due_12 : decode cX10_due 12 = .ok (.iload_n 2, 1) := by decide +kernel
theorem dX10_due_13 : decode cX10_due 13 = .ok (.i2l, 1) := by decide +kernel
theorem dX10_due_14 : decode cX10_due 14 = .ok (.lconst 0, 1) := by decide +kernel
theorem dX10_due_15 : decode cX10_due 15 = .ok (.ldc2_w 387, 3) := by decide +kernel
theorem dX10_due_18 : decode cX10_due 18 = .ok (.invokestatic 109, 3) := by decide +kernel
theorem dX10_due_21 : decode cX10_due 21 = .ok (.ifCond .ne 6, 3) := by decide +kernel
theorem dX10_due_24 : decode cX10_due 24 = .ok (.bipush (-2), 2) := by decide +kernel
theorem dX10_due_26 : decode cX10_due 26 = .ok (.ireturn, 1) := by decide +kernel
theorem dX10_due_27 : decode cX10_due 27 = .ok (.aload_n 0, 1) := by decide +kernel
theorem dX10_due_28 : decode cX10_due 28 = .ok (.invokevirtual 384, 3) := by decide +kernel
theorem dX10_due_31 : decode cX10_due 31 = .ok (.iload_n 1, 1) := by decide +kernel
theorem dX10_due_32 : decode cX10_due 32 = .ok (.i2l, 1) := by decide +kernel
theorem dX10_due_33 : decode cX10_due 33 = .ok (.lconst 0, 1) := by decide +kernel
theorem dX10_due_34 : decode cX10_due 34 = .ok (.aload_n 0, 1) := by decide +kernel
theorem dX10_due_35 : decode cX10_due 35 = .ok (.getfield 328, 3) := by decide +kernel
theorem dX10_due_38 : decode cX10_due 38 = .ok (.iconst 1, 1) := by decide +kernel
theorem dX10_due_39 : decode cX10_due 39 = .ok (.isub, 1) := by decide +kernel
theorem dX10_due_40 : decode cX10_due 40 = .ok (.i2l, 1) := by decide +kernel
theorem dX10_due_41 : decode cX10_due 41 = .ok (.invokestatic 109, 3) := by decide +kernel
theorem dX10_due_44 : decode cX10_due 44 = .ok (.ifCond .ne 5, 3) := by decide +kernel
theorem dX10_due_47 : decode cX10_due 47 = .ok (.iconst (-1), 1) := by decide +kernel
theorem dX10_due_48 : decode cX10_due 48 = .ok (.ireturn, 1) := by decide +kernel
theorem dX10_due_49 : decode cX10_due 49 = .ok (.aload_n 0, 1) := by decide +kernel
theorem dX10_due_50 : decode cX10_due 50 = .ok (.getfield 74, 3) := by decide +kernel
theorem dX10_due_53 : decode cX10_due 53 = .ok (.iconst 4, 1) := by decide +kernel
theorem dX10_due_54 : decode cX10_due 54 = .ok (.iload_n 1, 1) := by decide +kernel
theorem dX10_due_55 : decode cX10_due 55 = .ok (.imul, 1) := by decide +kernel
theorem dX10_due_56 : decode cX10_due 56 = .ok (.iaload, 1) := by decide +kernel
theorem dX10_due_57 : decode cX10_due 57 = .ok (.istore_n 3, 1) := by decide +kernel
theorem dX10_due_58 : decode cX10_due 58 = .ok (.aload_n 0, 1) := by decide +kernel
theorem dX10_due_59 : decode cX10_due 59 = .ok (.getfield 74, 3) := by decide +kernel
theorem dX10_due_62 : decode cX10_due 62 = .ok (.iconst 4, 1) := by decide +kernel
theorem dX10_due_63 : decode cX10_due 63 = .ok (.iload_n 1, 1) := by decide +kernel
theorem dX10_due_64 : decode cX10_due 64 = .ok (.imul, 1) := by decide +kernel
theorem dX10_due_65 : decode cX10_due 65 = .ok (.iconst 2, 1) := by decide +kernel
theorem dX10_due_66 : decode cX10_due 66 = .ok (.iadd, 1) := by decide +kernel
theorem dX10_due_67 : decode cX10_due 67 = .ok (.iaload, 1) := by decide +kernel
theorem dX10_due_68 : decode cX10_due 68 = .ok (.istore 4, 2) := by decide +kernel
theorem dX10_due_70 : decode cX10_due 70 = .ok (.iload_n 2, 1) := by decide +kernel
theorem dX10_due_71 : decode cX10_due 71 = .ok (.ifCond .ne 10, 3) := by decide +kernel
theorem dX10_due_74 : decode cX10_due 74 = .ok (.iload_n 3, 1) := by decide +kernel
theorem dX10_due_75 : decode cX10_due 75 = .ok (.bipush 24, 2) := by decide +kernel
theorem dX10_due_77 : decode cX10_due 77 = .ok (.idiv, 1) := by decide +kernel
theorem dX10_due_78 : decode cX10_due 78 = .ok (.goto 69, 3) := by decide +kernel
theorem dX10_due_81 : decode cX10_due 81 = .ok (.iload_n 2, 1) := by decide +kernel
theorem dX10_due_82 : decode cX10_due 82 = .ok (.iconst 1, 1) := by decide +kernel
theorem dX10_due_83 : decode cX10_due 83 = .ok (.if_icmp .ne 10, 3) := by decide +kernel
theorem dX10_due_86 : decode cX10_due 86 = .ok (.iload_n 3, 1) := by decide +kernel
theorem dX10_due_87 : decode cX10_due 87 = .ok (.bipush 24, 2) := by decide +kernel
theorem dX10_due_89 : decode cX10_due 89 = .ok (.irem, 1) := by decide +kernel
theorem dX10_due_90 : decode cX10_due 90 = .ok (.goto 57, 3) := by decide +kernel
theorem dX10_due_93 : decode cX10_due 93 = .ok (.iload_n 2, 1) := by decide +kernel
theorem dX10_due_94 : decode cX10_due 94 = .ok (.iconst 2, 1) := by decide +kernel
theorem dX10_due_95 : decode cX10_due 95 = .ok (.if_icmp .ne 16, 3) := by decide +kernel
theorem dX10_due_98 : decode cX10_due 98 = .ok (.aload_n 0, 1) := by decide +kernel
theorem dX10_due_99 : decode cX10_due 99 = .ok (.getfield 74, 3) := by decide +kernel
theorem dX10_due_102 : decode cX10_due 102 = .ok (.iconst 4, 1) := by decide +kernel
theorem dX10_due_103 : decode cX10_due 103 = .ok (.iload_n 1, 1) := by decide +kernel
theorem dX10_due_104 : decode cX10_due 104 = .ok (.imul, 1) := by decide +kernel
theorem dX10_due_105 : decode cX10_due 105 = .ok (.iconst 1, 1) := by decide +kernel
theorem dX10_due_106 : decode cX10_due 106 = .ok (.iadd, 1) := by decide +kernel
theorem dX10_due_107 : decode cX10_due 107 = .ok (.iaload, 1) := by decide +kernel
theorem dX10_due_108 : decode cX10_due 108 = .ok (.goto 39, 3) := by decide +kernel
theorem dX10_due_111 : decode cX10_due 111 = .ok (.iload_n 2, 1) := by decide +kernel
theorem dX10_due_112 : decode cX10_due 112 = .ok (.iconst 3, 1) := by decide +kernel
theorem dX10_due_113 : decode cX10_due 113 = .ok (.if_icmp .ne 14, 3) := by decide +kernel
theorem dX10_due_116 : decode cX10_due 116 = .ok (.aload_n 0, 1) := by decide +kernel
theorem dX10_due_117 : decode cX10_due 117 = .ok (.iload 4, 2) := by decide +kernel
theorem dX10_due_119 : decode cX10_due 119 = .ok (.bipush 6, 2) := by decide +kernel
theorem dX10_due_121 : decode cX10_due 121 = .ok (.invokevirtual 285, 3) := by decide +kernel
theorem dX10_due_124 : decode cX10_due 124 = .ok (.goto 23, 3) := by decide +kernel
theorem dX10_due_127 : decode cX10_due 127 = .ok (.iload_n 2, 1) := by decide +kernel
theorem dX10_due_128 : decode cX10_due 128 = .ok (.iconst 4, 1) := by decide +kernel
theorem dX10_due_129 : decode cX10_due 129 = .ok (.if_icmp .ne 8, 3) := by decide +kernel
theorem dX10_due_132 : decode cX10_due 132 = .ok (.iload 4, 2) := by decide +kernel
theorem dX10_due_134 : decode cX10_due 134 = .ok (.goto 13, 3) := by decide +kernel
theorem dX10_due_137 : decode cX10_due 137 = .ok (.aload_n 0, 1) := by decide +kernel
theorem dX10_due_138 : decode cX10_due 138 = .ok (.getfield 74, 3) := by decide +kernel
theorem dX10_due_141 : decode cX10_due 141 = .ok (.iconst 4, 1) := by decide +kernel
theorem dX10_due_142 : decode cX10_due 142 = .ok (.iload_n 1, 1) := by decide +kernel
theorem dX10_due_143 : decode cX10_due 143 = .ok (.imul, 1) := by decide +kernel
theorem dX10_due_144 : decode cX10_due 144 = .ok (.iconst 3, 1) := by decide +kernel
theorem dX10_due_145 : decode cX10_due 145 = .ok (.iadd, 1) := by decide +kernel
theorem dX10_due_146 : decode cX10_due 146 = .ok (.iaload, 1) := by decide +kernel
theorem dX10_due_147 : decode cX10_due 147 = .ok (.ireturn, 1) := by decide +kernel
theorem dX10_paid_0 : decode cX10_paid 0 = .ok (.aload_n 0, 1) := by decide +kernel
theorem dX10_paid_1 : decode cX10_paid 1 = .ok (.iconst 0, 1) := by decide +kernel
theorem dX10_paid_2 : decode cX10_paid 2 = .ok (.putfield 104, 3) := by decide +kernel
theorem dX10_paid_5 : decode cX10_paid 5 = .ok (.aload_n 0, 1) := by decide +kernel
theorem dX10_paid_6 : decode cX10_paid 6 = .ok (.iload_n 1, 1) := by decide +kernel
theorem dX10_paid_7 : decode cX10_paid 7 = .ok (.i2l, 1) := by decide +kernel
theorem dX10_paid_8 : decode cX10_paid 8 = .ok (.invokevirtual 389, 3) := by decide +kernel
theorem dX10_paid_11 : decode cX10_paid 11 = .ok (.ifCond .ne 6, 3) := by decide +kernel
theorem dX10_paid_14 : decode cX10_paid 14 = .ok (.bipush (-2), 2) := by decide +kernel
theorem dX10_paid_16 : decode cX10_paid 16 = .ok (.ireturn, 1) := by decide +kernel
theorem dX10_paid_17 : decode cX10_paid 17 = .ok (.aload_n 0, 1) := by decide +kernel
theorem dX10_paid_18 : decode cX10_paid 18 = .ok (.invokevirtual 384, 3) := by decide +kernel
theorem dX10_paid_21 : decode cX10_paid 21 = .ok (.aload_n 0, 1) := by decide +kernel
theorem dX10_paid_22 : decode cX10_paid 22 = .ok (.iload_n 1, 1) := by decide +kernel
theorem dX10_paid_23 : decode cX10_paid 23 = .ok (.invokevirtual 378, 3) := by decide +kernel
theorem dX10_paid_26 : decode cX10_paid 26 = .ok (.ireturn, 1) := by decide +kernel
theorem dX10_pays_0 : decode cX10_pays 0 = .ok (.aload_n 0, 1) := by decide +kernel
theorem dX10_pays_1 : decode cX10_pays 1 = .ok (.iconst 0, 1) := by decide +kernel
theorem dX10_pays_2 : decode cX10_pays 2 = .ok (.putfield 104, 3) := by decide +kernel
theorem dX10_pays_5 : decode cX10_pays 5 = .ok (.aload_n 0, 1) := by decide +kernel
theorem dX10_pays_6 : decode cX10_pays 6 = .ok (.iload_n 1, 1) := by decide +kernel
theorem dX10_pays_7 : decode cX10_pays 7 = .ok (.i2l, 1) := by decide +kernel
theorem dX10_pays_8 : decode cX10_pays 8 = .ok (.invokevirtual 389, 3) := by decide +kernel
theorem dX10_pays_11 : decode cX10_pays 11 = .ok (.ifCond .eq 11, 3) := by decide +kernel
theorem dX10_pays_14 : decode cX10_pays 14 = .ok (.aload_n 0, 1) := by decide +kernel
theorem dX10_pays_15 : decode cX10_pays 15 = .ok (.iload_n 2, 1) := by decide +kernel
theorem dX10_pays_16 : decode cX10_pays 16 = .ok (.invokevirtual 381, 3) := by decide +kernel
theorem dX10_pays_19 : decode cX10_pays 19 = .ok (.ifCond .ne 6, 3) := by decide +kernel
theorem dX10_pays_22 : decode cX10_pays 22 = .ok (.bipush (-2), 2) := by decide +kernel
theorem dX10_pays_24 : decode cX10_pays 24 = .ok (.ireturn, 1) := by decide +kernel
theorem dX10_pays_25 : decode cX10_pays 25 = .ok (.aload_n 0, 1) := by decide +kernel
theorem dX10_pays_26 : decode cX10_pays 26 = .ok (.invokevirtual 384, 3) := by decide +kernel
theorem dX10_pays_29 : decode cX10_pays 29 = .ok (.iconst 0, 1) := by decide +kernel
theorem dX10_pays_30 : decode cX10_pays 30 = .ok (.istore_n 3, 1) := by decide +kernel
theorem dX10_pays_31 : decode cX10_pays 31 = .ok (.iconst 0, 1) := by decide +kernel
theorem dX10_pays_32 : decode cX10_pays 32 = .ok (.istore 4, 2) := by decide +kernel
theorem dX10_pays_34 : decode cX10_pays 34 = .ok (.iload 4, 2) := by decide +kernel
theorem dX10_pays_36 : decode cX10_pays 36 = .ok (.aload_n 0, 1) := by decide +kernel
theorem dX10_pays_37 : decode cX10_pays 37 = .ok (.getfield 328, 3) := by decide +kernel
theorem dX10_pays_40 : decode cX10_pays 40 = .ok (.if_icmp .ge 54, 3) := by decide +kernel
theorem dX10_pays_43 : decode cX10_pays 43 = .ok (.iload_n 3, 1) := by decide +kernel
theorem dX10_pays_44 : decode cX10_pays 44 = .ok (.aload_n 0, 1) := by decide +kernel
theorem dX10_pays_45 : decode cX10_pays 45 = .ok (.getfield 74, 3) := by decide +kernel
theorem dX10_pays_48 : decode cX10_pays 48 = .ok (.iconst 4, 1) := by decide +kernel
theorem dX10_pays_49 : decode cX10_pays 49 = .ok (.iload 4, 2) := by decide +kernel
theorem dX10_pays_51 : decode cX10_pays 51 = .ok (.imul, 1) := by decide +kernel
theorem dX10_pays_52 : decode cX10_pays 52 = .ok (.iaload, 1) := by decide +kernel
theorem dX10_pays_53 : decode cX10_pays 53 = .ok (.bipush 24, 2) := by decide +kernel
theorem dX10_pays_55 : decode cX10_pays 55 = .ok (.idiv, 1) := by decide +kernel
theorem dX10_pays_56 : decode cX10_pays 56 = .ok (.iload_n 2, 1) := by decide +kernel
theorem dX10_pays_57 : decode cX10_pays 57 = .ok (.if_icmp .ne 28, 3) := by decide +kernel
theorem dX10_pays_60 : decode cX10_pays 60 = .ok (.aload_n 0, 1) := by decide +kernel
theorem dX10_pays_61 : decode cX10_pays 61 = .ok (.aload_n 0, 1) := by decide +kernel
theorem dX10_pays_62 : decode cX10_pays 62 = .ok (.getfield 74, 3) := by decide +kernel
theorem dX10_pays_65 : decode cX10_pays 65 = .ok (.iconst 4, 1) := by decide +kernel
theorem dX10_pays_66 : decode cX10_pays 66 = .ok (.iload 4, 2) := by decide +kernel
theorem dX10_pays_68 : decode cX10_pays 68 = .ok (.imul, 1) := by decide +kernel
theorem dX10_pays_69 : decode cX10_pays 69 = .ok (.iconst 2, 1) := by decide +kernel
theorem dX10_pays_70 : decode cX10_pays 70 = .ok (.iadd, 1) := by decide +kernel
theorem dX10_pays_71 : decode cX10_pays 71 = .ok (.iaload, 1) := by decide +kernel
theorem dX10_pays_72 : decode cX10_pays 72 = .ok (.bipush 6, 2) := by decide +kernel
theorem dX10_pays_74 : decode cX10_pays 74 = .ok (.invokevirtual 285, 3) := by decide +kernel
theorem dX10_pays_77 : decode cX10_pays 77 = .ok (.iload_n 1, 1) := by decide +kernel
theorem dX10_pays_78 : decode cX10_pays 78 = .ok (.if_icmp .ne 7, 3) := by decide +kernel
theorem dX10_pays_81 : decode cX10_pays 81 = .ok (.iconst 1, 1) := by decide +kernel
theorem dX10_pays_82 : decode cX10_pays 82 = .ok (.goto 4, 3) := by decide +kernel
theorem dX10_pays_85 : decode cX10_pays 85 = .ok (.iconst 0, 1) := by decide +kernel
theorem dX10_pays_86 : decode cX10_pays 86 = .ok (.iadd, 1) := by decide +kernel
theorem dX10_pays_87 : decode cX10_pays 87 = .ok (.istore_n 3, 1) := by decide +kernel
theorem dX10_pays_88 : decode cX10_pays 88 = .ok (.iinc 4 1, 3) := by decide +kernel
theorem dX10_pays_91 : decode cX10_pays 91 = .ok (.goto (-57), 3) := by decide +kernel
theorem dX10_pays_94 : decode cX10_pays 94 = .ok (.iload_n 3, 1) := by decide +kernel
theorem dX10_pays_95 : decode cX10_pays 95 = .ok (.ireturn, 1) := by decide +kernel
theorem dX10_worst_0 : decode cX10_worst 0 = .ok (.aload_n 0, 1) := by decide +kernel
theorem dX10_worst_1 : decode cX10_worst 1 = .ok (.iconst 0, 1) := by decide +kernel
theorem dX10_worst_2 : decode cX10_worst 2 = .ok (.putfield 104, 3) := by decide +kernel
theorem dX10_worst_5 : decode cX10_worst 5 = .ok (.aload_n 0, 1) := by decide +kernel
theorem dX10_worst_6 : decode cX10_worst 6 = .ok (.invokevirtual 280, 3) := by decide +kernel
theorem dX10_worst_9 : decode cX10_worst 9 = .ok (.ifCond .ne 6, 3) := by decide +kernel
theorem dX10_worst_12 : decode cX10_worst 12 = .ok (.bipush (-2), 2) := by decide +kernel
theorem dX10_worst_14 : decode cX10_worst 14 = .ok (.ireturn, 1) := by decide +kernel
theorem dX10_worst_15 : decode cX10_worst 15 = .ok (.aload_n 0, 1) := by decide +kernel
theorem dX10_worst_16 : decode cX10_worst 16 = .ok (.invokevirtual 384, 3) := by decide +kernel
theorem dX10_worst_19 : decode cX10_worst 19 = .ok (.iconst (-1), 1) := by decide +kernel
theorem dX10_worst_20 : decode cX10_worst 20 = .ok (.istore_n 1, 1) := by decide +kernel
theorem dX10_worst_21 : decode cX10_worst 21 = .ok (.iconst 0, 1) := by decide +kernel
theorem dX10_worst_22 : decode cX10_worst 22 = .ok (.istore_n 2, 1) := by decide +kernel
theorem dX10_worst_23 : decode cX10_worst 23 = .ok (.iload_n 2, 1) := by decide +kernel
theorem dX10_worst_24 : decode cX10_worst 24 = .ok (.iconst 5, 1) := by decide +kernel
theorem dX10_worst_25 : decode cX10_worst 25 = .ok (.if_icmp .ge 35, 3) := by decide +kernel
theorem dX10_worst_28 : decode cX10_worst 28 = .ok (.aload_n 0, 1) := by decide +kernel
theorem dX10_worst_29 : decode cX10_worst 29 = .ok (.getfield 77, 3) := by decide +kernel
theorem dX10_worst_32 : decode cX10_worst 32 = .ok (.iload_n 2, 1) := by decide +kernel
theorem dX10_worst_33 : decode cX10_worst 33 = .ok (.iaload, 1) := by decide +kernel
theorem dX10_worst_34 : decode cX10_worst 34 = .ok (.iload_n 1, 1) := by decide +kernel
theorem dX10_worst_35 : decode cX10_worst 35 = .ok (.iconst (-1), 1) := by decide +kernel
theorem dX10_worst_36 : decode cX10_worst 36 = .ok (.if_icmp .ne 7, 3) := by decide +kernel
theorem dX10_worst_39 : decode cX10_worst 39 = .ok (.iconst 0, 1) := by decide +kernel
theorem dX10_worst_40 : decode cX10_worst 40 = .ok (.goto 9, 3) := by decide +kernel
theorem dX10_worst_43 : decode cX10_worst 43 = .ok (.aload_n 0, 1) := by decide +kernel
theorem dX10_worst_44 : decode cX10_worst 44 = .ok (.getfield 77, 3) := by decide +kernel
theorem dX10_worst_47 : decode cX10_worst 47 = .ok (.iload_n 1, 1) := by decide +kernel
theorem dX10_worst_48 : decode cX10_worst 48 = .ok (.iaload, 1) := by decide +kernel
theorem dX10_worst_49 : decode cX10_worst 49 = .ok (.if_icmp .le 5, 3) := by decide +kernel
theorem dX10_worst_52 : decode cX10_worst 52 = .ok (.iload_n 2, 1) := by decide +kernel
theorem dX10_worst_53 : decode cX10_worst 53 = .ok (.istore_n 1, 1) := by decide +kernel
theorem dX10_worst_54 : decode cX10_worst 54 = .ok (.iinc 2 1, 3) := by decide +kernel
theorem dX10_worst_57 : decode cX10_worst 57 = .ok (.goto (-34), 3) := by decide +kernel
theorem dX10_worst_60 : decode cX10_worst 60 = .ok (.iload_n 1, 1) := by decide +kernel
theorem dX10_worst_61 : decode cX10_worst 61 = .ok (.ireturn, 1) := by decide +kernel
theorem dX10_left_0 : decode cX10_left 0 = .ok (.aload_n 0, 1) := by decide +kernel
theorem dX10_left_1 : decode cX10_left 1 = .ok (.iconst 0, 1) := by decide +kernel
theorem dX10_left_2 : decode cX10_left 2 = .ok (.putfield 104, 3) := by decide +kernel
theorem dX10_left_5 : decode cX10_left 5 = .ok (.aload_n 0, 1) := by decide +kernel
theorem dX10_left_6 : decode cX10_left 6 = .ok (.iload_n 1, 1) := by decide +kernel
theorem dX10_left_7 : decode cX10_left 7 = .ok (.invokevirtual 308, 3) := by decide +kernel
theorem dX10_left_10 : decode cX10_left 10 = .ok (.ifCond .ne 6, 3) := by decide +kernel
theorem dX10_left_13 : decode cX10_left 13 = .ok (.bipush (-2), 2) := by decide +kernel
theorem dX10_left_15 : decode cX10_left 15 = .ok (.ireturn, 1) := by decide +kernel
theorem dX10_left_16 : decode cX10_left 16 = .ok (.aload_n 0, 1) := by decide +kernel
theorem dX10_left_17 : decode cX10_left 17 = .ok (.invokevirtual 384, 3) := by decide +kernel
theorem dX10_left_20 : decode cX10_left 20 = .ok (.aload_n 0, 1) := by decide +kernel
theorem dX10_left_21 : decode cX10_left 21 = .ok (.getfield 37, 3) := by decide +kernel
theorem dX10_left_24 : decode cX10_left 24 = .ok (.iconst 3, 1) := by decide +kernel
theorem dX10_left_25 : decode cX10_left 25 = .ok (.iaload, 1) := by decide +kernel
theorem dX10_left_26 : decode cX10_left 26 = .ok (.aload_n 0, 1) := by decide +kernel
theorem dX10_left_27 : decode cX10_left 27 = .ok (.getfield 59, 3) := by decide +kernel
theorem dX10_left_30 : decode cX10_left 30 = .ok (.aload_n 0, 1) := by decide +kernel
theorem dX10_left_31 : decode cX10_left 31 = .ok (.iload_n 1, 1) := by decide +kernel
theorem dX10_left_32 : decode cX10_left 32 = .ok (.invokevirtual 334, 3) := by decide +kernel
theorem dX10_left_35 : decode cX10_left 35 = .ok (.iaload, 1) := by decide +kernel
theorem dX10_left_36 : decode cX10_left 36 = .ok (.isub, 1) := by decide +kernel
theorem dX10_left_37 : decode cX10_left 37 = .ok (.istore_n 2, 1) := by decide +kernel
theorem dX10_left_38 : decode cX10_left 38 = .ok (.iload_n 2, 1) := by decide +kernel
theorem dX10_left_39 : decode cX10_left 39 = .ok (.iconst 1, 1) := by decide +kernel
theorem dX10_left_40 : decode cX10_left 40 = .ok (.if_icmp .ge 7, 3) := by decide +kernel
theorem dX10_left_43 : decode cX10_left 43 = .ok (.iconst 1, 1) := by decide +kernel
theorem dX10_left_44 : decode cX10_left 44 = .ok (.goto 4, 3) := by decide +kernel
theorem dX10_left_47 : decode cX10_left 47 = .ok (.iload_n 2, 1) := by decide +kernel
theorem dX10_left_48 : decode cX10_left 48 = .ok (.ireturn, 1) := by decide +kernel
theorem dX10_best_0 : decode cX10_best 0 = .ok (.aload_n 0, 1) := by decide +kernel
theorem dX10_best_1 : decode cX10_best 1 = .ok (.iconst 0, 1) := by decide +kernel
theorem dX10_best_2 : decode cX10_best 2 = .ok (.putfield 104, 3) := by decide +kernel
theorem dX10_best_5 : decode cX10_best 5 = .ok (.aload_n 0, 1) := by decide +kernel
theorem dX10_best_6 : decode cX10_best 6 = .ok (.iload_n 1, 1) := by decide +kernel
theorem dX10_best_7 : decode cX10_best 7 = .ok (.invokevirtual 288, 3) := by decide +kernel
theorem dX10_best_10 : decode cX10_best 10 = .ok (.ifCond .eq 15, 3) := by decide +kernel
theorem dX10_best_13 : decode cX10_best 13 = .ok (.iload_n 2, 1) := by decide +kernel
theorem dX10_best_14 : decode cX10_best 14 = .ok (.i2l, 1) := by decide +kernel
theorem dX10_best_15 : decode cX10_best 15 = .ok (.lconst 0, 1) := by decide +kernel
theorem dX10_best_16 : decode cX10_best 16 = .ok (.ldc2_w 302, 3) := by decide +kernel
theorem dX10_best_19 : decode cX10_best 19 = .ok (.invokestatic 109, 3) := by decide +kernel
theorem dX10_best_22 : decode cX10_best 22 = .ok (.ifCond .ne 6, 3) := by decide +kernel
theorem dX10_best_25 : decode cX10_best 25 = .ok (.bipush (-2), 2) := by decide +kernel
theorem dX10_best_27 : decode cX10_best 27 = .ok (.ireturn, 1) := by decide +kernel
theorem dX10_best_28 : decode cX10_best 28 = .ok (.aload_n 0, 1) := by decide +kernel
theorem dX10_best_29 : decode cX10_best 29 = .ok (.invokevirtual 372, 3) := by decide +kernel
theorem dX10_best_32 : decode cX10_best 32 = .ok (.aload_n 0, 1) := by decide +kernel
theorem dX10_best_33 : decode cX10_best 33 = .ok (.iload_n 1, 1) := by decide +kernel
theorem dX10_best_34 : decode cX10_best 34 = .ok (.aload_n 0, 1) := by decide +kernel
theorem dX10_best_35 : decode cX10_best 35 = .ok (.iload_n 1, 1) := by decide +kernel
theorem dX10_best_36 : decode cX10_best 36 = .ok (.iconst 0, 1) := by decide +kernel
theorem dX10_best_37 : decode cX10_best 37 = .ok (.invokevirtual 285, 3) := by decide +kernel
theorem dX10_best_40 : decode cX10_best 40 = .ok (.invokevirtual 401, 3) := by decide +kernel
theorem dX10_best_43 : decode cX10_best 43 = .ok (.iload_n 2, 1) := by decide +kernel
theorem dX10_best_44 : decode cX10_best 44 = .ok (.ifCond .ne 10, 3) := by decide +kernel
theorem dX10_best_47 : decode cX10_best 47 = .ok (.aload_n 0, 1) := by decide +kernel
theorem dX10_best_48 : decode cX10_best 48 = .ok (.getfield 392, 3) := by decide +kernel
theorem dX10_best_51 : decode cX10_best 51 = .ok (.goto 19, 3) := by decide +kernel
theorem dX10_best_54 : decode cX10_best 54 = .ok (.iload_n 2, 1) := by decide +kernel
theorem dX10_best_55 : decode cX10_best 55 = .ok (.iconst 1, 1) := by decide +kernel
theorem dX10_best_56 : decode cX10_best 56 = .ok (.if_icmp .ne 10, 3) := by decide +kernel
theorem dX10_best_59 : decode cX10_best 59 = .ok (.aload_n 0, 1) := by decide +kernel
theorem dX10_best_60 : decode cX10_best 60 = .ok (.getfield 395, 3) := by decide +kernel
theorem dX10_best_63 : decode cX10_best 63 = .ok (.goto 7, 3) := by decide +kernel
theorem dX10_best_66 : decode cX10_best 66 = .ok (.aload_n 0, 1) := by decide +kernel
theorem dX10_best_67 : decode cX10_best 67 = .ok (.getfield 398, 3) := by decide +kernel
theorem dX10_best_70 : decode cX10_best 70 = .ok (.ireturn, 1) := by decide +kernel
theorem dX10_split_0 : decode cX10_split 0 = .ok (.aload_n 0, 1) := by decide +kernel
theorem dX10_split_1 : decode cX10_split 1 = .ok (.iconst 0, 1) := by decide +kernel
theorem dX10_split_2 : decode cX10_split 2 = .ok (.putfield 104, 3) := by decide +kernel
theorem dX10_split_5 : decode cX10_split 5 = .ok (.aload_n 0, 1) := by decide +kernel
theorem dX10_split_6 : decode cX10_split 6 = .ok (.iload_n 1, 1) := by decide +kernel
theorem dX10_split_7 : decode cX10_split 7 = .ok (.invokevirtual 288, 3) := by decide +kernel
theorem dX10_split_10 : decode cX10_split 10 = .ok (.ifCond .eq 15, 3) := by decide +kernel
theorem dX10_split_13 : decode cX10_split 13 = .ok (.iload_n 2, 1) := by decide +kernel
theorem dX10_split_14 : decode cX10_split 14 = .ok (.i2l, 1) := by decide +kernel
theorem dX10_split_15 : decode cX10_split 15 = .ok (.lconst 0, 1) := by decide +kernel
theorem dX10_split_16 : decode cX10_split 16 = .ok (.ldc2_w 107, 3) := by decide +kernel
theorem dX10_split_19 : decode cX10_split 19 = .ok (.invokestatic 109, 3) := by decide +kernel
theorem dX10_split_22 : decode cX10_split 22 = .ok (.ifCond .ne 6, 3) := by decide +kernel
theorem dX10_split_25 : decode cX10_split 25 = .ok (.bipush (-2), 2) := by decide +kernel
theorem dX10_split_27 : decode cX10_split 27 = .ok (.ireturn, 1) := by decide +kernel
theorem dX10_split_28 : decode cX10_split 28 = .ok (.aload_n 0, 1) := by decide +kernel
theorem dX10_split_29 : decode cX10_split 29 = .ok (.iload_n 1, 1) := by decide +kernel
theorem dX10_split_30 : decode cX10_split 30 = .ok (.iconst 4, 1) := by decide +kernel
theorem dX10_split_31 : decode cX10_split 31 = .ok (.invokevirtual 285, 3) := by decide +kernel
theorem dX10_split_34 : decode cX10_split 34 = .ok (.istore_n 3, 1) := by decide +kernel
theorem dX10_split_35 : decode cX10_split 35 = .ok (.aload_n 0, 1) := by decide +kernel
theorem dX10_split_36 : decode cX10_split 36 = .ok (.iload_n 1, 1) := by decide +kernel
theorem dX10_split_37 : decode cX10_split 37 = .ok (.iconst 5, 1) := by decide +kernel
theorem dX10_split_38 : decode cX10_split 38 = .ok (.invokevirtual 285, 3) := by decide +kernel
theorem dX10_split_41 : decode cX10_split 41 = .ok (.istore 4, 2) := by decide +kernel
theorem dX10_split_43 : decode cX10_split 43 = .ok (.iload_n 3, 1) := by decide +kernel
theorem dX10_split_44 : decode cX10_split 44 = .ok (.iconst 1, 1) := by decide +kernel
theorem dX10_split_45 : decode cX10_split 45 = .ok (.if_icmp .ne 5, 3) := by decide +kernel
theorem dX10_split_48 : decode cX10_split 48 = .ok (.iconst (-1), 1) := by decide +kernel
theorem dX10_split_49 : decode cX10_split 49 = .ok (.ireturn, 1) := by decide +kernel
theorem dX10_split_50 : decode cX10_split 50 = .ok (.aload_n 0, 1) := by decide +kernel
theorem dX10_split_51 : decode cX10_split 51 = .ok (.invokevirtual 372, 3) := by decide +kernel
theorem dX10_split_54 : decode cX10_split 54 = .ok (.iconst (-1), 1) := by decide +kernel
theorem dX10_split_55 : decode cX10_split 55 = .ok (.istore 5, 2) := by decide +kernel
theorem dX10_split_57 : decode cX10_split 57 = .ok (.iconst (-1), 1) := by decide +kernel
theorem dX10_split_58 : decode cX10_split 58 = .ok (.istore 6, 2) := by decide +kernel
theorem dX10_split_60 : decode cX10_split 60 = .ok (.iconst (-1), 1) := by decide +kernel
theorem dX10_split_61 : decode cX10_split 61 = .ok (.istore 7, 2) := by decide +kernel
theorem dX10_split_63 : decode cX10_split 63 = .ok (.iconst (-1), 1) := by decide +kernel
theorem dX10_split_64 : decode cX10_split 64 = .ok (.istore 8, 2) := by decide +kernel
theorem dX10_split_66 : decode cX10_split 66 = .ok (.iconst 1, 1) := by decide +kernel
theorem dX10_split_67 : decode cX10_split 67 = .ok (.istore 9, 2) := by decide +kernel
theorem dX10_split_69 : decode cX10_split 69 = .ok (.iload 9, 2) := by decide +kernel
theorem dX10_split_71 : decode cX10_split 71 = .ok (.iload_n 3, 1) := by decide +kernel
theorem dX10_split_72 : decode cX10_split 72 = .ok (.if_icmp .ge 128, 3) := by decide +kernel
theorem dX10_split_75 : decode cX10_split 75 = .ok (.aload_n 0, 1) := by decide +kernel
theorem dX10_split_76 : decode cX10_split 76 = .ok (.aload_n 0, 1) := by decide +kernel
theorem dX10_split_77 : decode cX10_split 77 = .ok (.iload_n 1, 1) := by decide +kernel
theorem dX10_split_78 : decode cX10_split 78 = .ok (.iconst 0, 1) := by decide +kernel
theorem dX10_split_79 : decode cX10_split 79 = .ok (.invokevirtual 285, 3) := by decide +kernel
theorem dX10_split_82 : decode cX10_split 82 = .ok (.iconst 0, 1) := by decide +kernel
theorem dX10_split_83 : decode cX10_split 83 = .ok (.aload_n 0, 1) := by decide +kernel
theorem dX10_split_84 : decode cX10_split 84 = .ok (.iload_n 1, 1) := by decide +kernel
theorem dX10_split_85 : decode cX10_split 85 = .ok (.iconst 2, 1) := by decide +kernel
theorem dX10_split_86 : decode cX10_split 86 = .ok (.invokevirtual 285, 3) := by decide +kernel
theorem dX10_split_89 : decode cX10_split 89 = .ok (.iconst 0, 1) := by decide +kernel
theorem dX10_split_90 : decode cX10_split 90 = .ok (.iload_n 3, 1) := by decide +kernel
theorem dX10_split_91 : decode cX10_split 91 = .ok (.iload 9, 2) := by decide +kernel
theorem dX10_split_93 : decode cX10_split 93 = .ok (.isub, 1) := by decide +kernel
theorem dX10_split_94 : decode cX10_split 94 = .ok (.iload 4, 2) := by decide +kernel
theorem dX10_split_96 : decode cX10_split 96 = .ok (.aload_n 0, 1) := by decide +kernel
theorem dX10_split_97 : decode cX10_split 97 = .ok (.iload_n 1, 1) := by decide +kernel
theorem dX10_split_98 : decode cX10_split 98 = .ok (.bipush 6, 2) := by decide +kernel
theorem dX10_split_100 : decode cX10_split 100 = .ok (.invokevirtual 285, 3) := by decide +kernel
theorem dX10_split_103 : decode cX10_split 103 = .ok (.aload_n 0, 1) := by decide +kernel
theorem dX10_split_104 : decode cX10_split 104 = .ok (.iload_n 1, 1) := by decide +kernel
theorem dX10_split_105 : decode cX10_split 105 = .ok (.bipush 7, 2) := by decide +kernel
theorem dX10_split_107 : decode cX10_split 107 = .ok (.invokevirtual 285, 3) := by decide +kernel
theorem dX10_split_110 : decode cX10_split 110 = .ok (.invokevirtual 404, 3) := by decide +kernel
theorem dX10_split_113 : decode cX10_split 113 = .ok (.aload_n 0, 1) := by decide +kernel
theorem dX10_split_114 : decode cX10_split 114 = .ok (.getfield 46, 3) := by decide +kernel
theorem dX10_split_117 : decode cX10_split 117 = .ok (.bipush 8, 2) := by decide +kernel
theorem dX10_split_119 : decode cX10_split 119 = .ok (.iload_n 1, 1) := by decide +kernel
theorem dX10_split_120 : decode cX10_split 120 = .ok (.imul, 1) := by decide +kernel
theorem dX10_split_121 : decode cX10_split 121 = .ok (.iconst 4, 1) := by decide +kernel
theorem dX10_split_122 : decode cX10_split 122 = .ok (.iadd, 1) := by decide +kernel
theorem dX10_split_123 : decode cX10_split 123 = .ok (.iload 9, 2) := by decide +kernel
theorem dX10_split_125 : decode cX10_split 125 = .ok (.iastore, 1) := by decide +kernel
theorem dX10_split_126 : decode cX10_split 126 = .ok (.aload_n 0, 1) := by decide +kernel
theorem dX10_split_127 : decode cX10_split 127 = .ok (.getfield 46, 3) := by decide +kernel
theorem dX10_split_130 : decode cX10_split 130 = .ok (.bipush 8, 2) := by decide +kernel
theorem dX10_split_132 : decode cX10_split 132 = .ok (.iload_n 1, 1) := by decide +kernel
theorem dX10_split_133 : decode cX10_split 133 = .ok (.imul, 1) := by decide +kernel
theorem dX10_split_134 : decode cX10_split 134 = .ok (.iconst 5, 1) := by decide +kernel
theorem dX10_split_135 : decode cX10_split 135 = .ok (.iadd, 1) := by decide +kernel
theorem dX10_split_136 : decode cX10_split 136 = .ok (.iconst 0, 1) := by decide +kernel
theorem dX10_split_137 : decode cX10_split 137 = .ok (.iastore, 1) := by decide +kernel
theorem dX10_split_138 : decode cX10_split 138 = .ok (.aload_n 0, 1) := by decide +kernel
theorem dX10_split_139 : decode cX10_split 139 = .ok (.aload_n 0, 1) := by decide +kernel
theorem dX10_split_140 : decode cX10_split 140 = .ok (.getfield 34, 3) := by decide +kernel
theorem dX10_split_143 : decode cX10_split 143 = .ok (.iconst 3, 1) := by decide +kernel
theorem dX10_split_144 : decode cX10_split 144 = .ok (.iaload, 1) := by decide +kernel
theorem dX10_split_145 : decode cX10_split 145 = .ok (.aload_n 0, 1) := by decide +kernel
theorem dX10_split_146 : decode cX10_split 146 = .ok (.iload_n 1, 1) := by decide +kernel
theorem dX10_split_147 : decode cX10_split 147 = .ok (.iconst 0, 1) := by decide +kernel
theorem dX10_split_148 : decode cX10_split 148 = .ok (.invokevirtual 285, 3) := by decide +kernel
theorem dX10_split_151 : decode cX10_split 151 = .ok (.invokevirtual 401, 3) := by decide +kernel
theorem dX10_split_154 : decode cX10_split 154 = .ok (.iload 5, 2) := by decide +kernel
theorem dX10_split_156 : decode cX10_split 156 = .ok (.iconst (-1), 1) := by decide +kernel
theorem dX10_split_157 : decode cX10_split 157 = .ok (.if_icmp .eq 15, 3) := by decide +kernel
theorem dX10_split_160 : decode cX10_split 160 = .ok (.aload_n 0, 1) := by decide +kernel
theorem dX10_split_161 : decode cX10_split 161 = .ok (.getfield 392, 3) := by decide +kernel
theorem dX10_split_164 : decode cX10_split 164 = .ok (.iload 5, 2) := by decide +kernel
theorem dX10_split_166 : decode cX10_split 166 = .ok (.if_icmp .lt 6, 3) := by decide +kernel
theorem dX10_split_169 : decode cX10_split 169 = .ok (.goto 25, 3) := by decide +kernel
theorem dX10_split_172 : decode cX10_split 172 = .ok (.aload_n 0, 1) := by decide +kernel
theorem dX10_split_173 : decode cX10_split 173 = .ok (.getfield 392, 3) := by decide +kernel
theorem dX10_split_176 : decode cX10_split 176 = .ok (.istore 5, 2) := by decide +kernel
theorem dX10_split_178 : decode cX10_split 178 = .ok (.iload 9, 2) := by decide +kernel
theorem dX10_split_180 : decode cX10_split 180 = .ok (.istore 6, 2) := by decide +kernel
theorem dX10_split_182 : decode cX10_split 182 = .ok (.aload_n 0, 1) := by decide +kernel
theorem dX10_split_183 : decode cX10_split 183 = .ok (.getfield 395, 3) := by decide +kernel
theorem dX10_split_186 : decode cX10_split 186 = .ok (.istore 7, 2) := by decide +kernel
theorem dX10_split_188 : decode cX10_split 188 = .ok (.aload_n 0, 1) := by decide +kernel
theorem dX10_split_189 : decode cX10_split 189 = .ok (.getfield 398, 3) := by decide +kernel
theorem dX10_split_192 : decode cX10_split 192 = .ok (.istore 8, 2) := by decide +kernel
theorem dX10_split_194 : decode cX10_split 194 = .ok (.iinc 9 1, 3) := by decide +kernel
theorem dX10_split_197 : decode cX10_split 197 = .ok (.goto (-128), 3) := by decide +kernel
theorem dX10_split_200 : decode cX10_split 200 = .ok (.aload_n 0, 1) := by decide +kernel
theorem dX10_split_201 : decode cX10_split 201 = .ok (.getfield 46, 3) := by decide +kernel
theorem dX10_split_204 : decode cX10_split 204 = .ok (.bipush 8, 2) := by decide +kernel
theorem dX10_split_206 : decode cX10_split 206 = .ok (.iload_n 1, 1) := by decide +kernel
theorem dX10_split_207 : decode cX10_split 207 = .ok (.imul, 1) := by decide +kernel
theorem dX10_split_208 : decode cX10_split 208 = .ok (.iconst 4, 1) := by decide +kernel
theorem dX10_split_209 : decode cX10_split 209 = .ok (.iadd, 1) := by decide +kernel
theorem dX10_split_210 : decode cX10_split 210 = .ok (.iload_n 3, 1) := by decide +kernel
theorem dX10_split_211 : decode cX10_split 211 = .ok (.iastore, 1) := by decide +kernel
theorem dX10_split_212 : decode cX10_split 212 = .ok (.aload_n 0, 1) := by decide +kernel
theorem dX10_split_213 : decode cX10_split 213 = .ok (.getfield 46, 3) := by decide +kernel
theorem dX10_split_216 : decode cX10_split 216 = .ok (.bipush 8, 2) := by decide +kernel
theorem dX10_split_218 : decode cX10_split 218 = .ok (.iload_n 1, 1) := by decide +kernel
theorem dX10_split_219 : decode cX10_split 219 = .ok (.imul, 1) := by decide +kernel
theorem dX10_split_220 : decode cX10_split 220 = .ok (.iconst 5, 1) := by decide +kernel
theorem dX10_split_221 : decode cX10_split 221 = .ok (.iadd, 1) := by decide +kernel
theorem dX10_split_222 : decode cX10_split 222 = .ok (.iload 4, 2) := by decide +kernel
theorem dX10_split_224 : decode cX10_split 224 = .ok (.iastore, 1) := by decide +kernel
theorem dX10_split_225 : decode cX10_split 225 = .ok (.iload_n 2, 1) := by decide +kernel
theorem dX10_split_226 : decode cX10_split 226 = .ok (.ifCond .ne 8, 3) := by decide +kernel
theorem dX10_split_229 : decode cX10_split 229 = .ok (.iload 5, 2) := by decide +kernel
theorem dX10_split_231 : decode cX10_split 231 = .ok (.goto 25, 3) := by decide +kernel
theorem dX10_split_234 : decode cX10_split 234 = .ok (.iload_n 2, 1) := by decide +kernel
theorem dX10_split_235 : decode cX10_split 235 = .ok (.iconst 1, 1) := by decide +kernel
theorem dX10_split_236 : decode cX10_split 236 = .ok (.if_icmp .ne 8, 3) := by decide +kernel
theorem dX10_split_239 : decode cX10_split 239 = .ok (.iload 6, 2) := by decide +kernel
theorem dX10_split_241 : decode cX10_split 241 = .ok (.goto 15, 3) := by decide +kernel
theorem dX10_split_244 : decode cX10_split 244 = .ok (.iload_n 2, 1) := by decide +kernel
theorem dX10_split_245 : decode cX10_split 245 = .ok (.iconst 2, 1) := by decide +kernel
theorem dX10_split_246 : decode cX10_split 246 = .ok (.if_icmp .ne 8, 3) := by decide +kernel
theorem dX10_split_249 : decode cX10_split 249 = .ok (.iload 7, 2) := by decide +kernel
theorem dX10_split_251 : decode cX10_split 251 = .ok (.goto 5, 3) := by decide +kernel
theorem dX10_split_254 : decode cX10_split 254 = .ok (.iload 8, 2) := by decide +kernel
theorem dX10_split_256 : decode cX10_split 256 = .ok (.ireturn, 1) := by decide +kernel
theorem dX10_rest_0 : decode cX10_rest 0 = .ok (.aload_n 0, 1) := by decide +kernel
theorem dX10_rest_1 : decode cX10_rest 1 = .ok (.iconst 0, 1) := by decide +kernel
theorem dX10_rest_2 : decode cX10_rest 2 = .ok (.putfield 104, 3) := by decide +kernel
theorem dX10_rest_5 : decode cX10_rest 5 = .ok (.aload_n 0, 1) := by decide +kernel
theorem dX10_rest_6 : decode cX10_rest 6 = .ok (.invokevirtual 280, 3) := by decide +kernel
theorem dX10_rest_9 : decode cX10_rest 9 = .ok (.ifCond .eq 10, 3) := by decide +kernel
theorem dX10_rest_12 : decode cX10_rest 12 = .ok (.aload_n 0, 1) := by decide +kernel
theorem dX10_rest_13 : decode cX10_rest 13 = .ok (.invokevirtual 408, 3) := by decide +kernel
theorem dX10_rest_16 : decode cX10_rest 16 = .ok (.goto 5, 3) := by decide +kernel
theorem dX10_rest_19 : decode cX10_rest 19 = .ok (.bipush (-2), 2) := by decide +kernel
theorem dX10_rest_21 : decode cX10_rest 21 = .ok (.ireturn, 1) := by decide +kernel
theorem dX10_rests_0 : decode cX10_rests 0 = .ok (.aload_n 0, 1) := by decide +kernel
theorem dX10_rests_1 : decode cX10_rests 1 = .ok (.iconst 0, 1) := by decide +kernel
theorem dX10_rests_2 : decode cX10_rests 2 = .ok (.putfield 104, 3) := by decide +kernel
theorem dX10_rests_5 : decode cX10_rests 5 = .ok (.aload_n 0, 1) := by decide +kernel
theorem dX10_rests_6 : decode cX10_rests 6 = .ok (.invokevirtual 280, 3) := by decide +kernel
theorem dX10_rests_9 : decode cX10_rests 9 = .ok (.ifCond .eq 23, 3) := by decide +kernel
theorem dX10_rests_12 : decode cX10_rests 12 = .ok (.iload_n 1, 1) := by decide +kernel
theorem dX10_rests_13 : decode cX10_rests 13 = .ok (.i2l, 1) := by decide +kernel
theorem dX10_rests_14 : decode cX10_rests 14 = .ok (.lconst 0, 1) := by decide +kernel
theorem dX10_rests_15 : decode cX10_rests 15 = .ok (.ldc2_w 411, 3) := by decide +kernel
theorem dX10_rests_18 : decode cX10_rests 18 = .ok (.invokestatic 109, 3) := by decide +kernel
theorem dX10_rests_21 : decode cX10_rests 21 = .ok (.ifCond .eq 11, 3) := by decide +kernel
theorem dX10_rests_24 : decode cX10_rests 24 = .ok (.aload_n 0, 1) := by decide +kernel
theorem dX10_rests_25 : decode cX10_rests 25 = .ok (.iload_n 1, 1) := by decide +kernel
theorem dX10_rests_26 : decode cX10_rests 26 = .ok (.invokevirtual 413, 3) := by decide +kernel
theorem dX10_rests_29 : decode cX10_rests 29 = .ok (.goto 5, 3) := by decide +kernel
theorem dX10_rests_32 : decode cX10_rests 32 = .ok (.bipush (-2), 2) := by decide +kernel
theorem dX10_rests_34 : decode cX10_rests 34 = .ok (.ireturn, 1) := by decide +kernel
theorem dX10_sent_0 : decode cX10_sent 0 = .ok (.aload_n 0, 1) := by decide +kernel
theorem dX10_sent_1 : decode cX10_sent 1 = .ok (.iconst 0, 1) := by decide +kernel
theorem dX10_sent_2 : decode cX10_sent 2 = .ok (.putfield 104, 3) := by decide +kernel
theorem dX10_sent_5 : decode cX10_sent 5 = .ok (.aload_n 0, 1) := by decide +kernel
theorem dX10_sent_6 : decode cX10_sent 6 = .ok (.iload_n 1, 1) := by decide +kernel
theorem dX10_sent_7 : decode cX10_sent 7 = .ok (.invokevirtual 288, 3) := by decide +kernel
theorem dX10_sent_10 : decode cX10_sent 10 = .ok (.ifCond .eq 15, 3) := by decide +kernel
theorem dX10_sent_13 : decode cX10_sent 13 = .ok (.iload_n 2, 1) := by decide +kernel
theorem dX10_sent_14 : decode cX10_sent 14 = .ok (.i2l, 1) := by decide +kernel
theorem dX10_sent_15 : decode cX10_sent 15 = .ok (.lconst 0, 1) := by decide +kernel
theorem dX10_sent_16 : decode cX10_sent 16 = .ok (.ldc2_w 411, 3) := by decide +kernel
theorem dX10_sent_19 : decode cX10_sent 19 = .ok (.invokestatic 109, 3) := by decide +kernel
theorem dX10_sent_22 : decode cX10_sent 22 = .ok (.ifCond .ne 6, 3) := by decide +kernel
theorem dX10_sent_25 : decode cX10_sent 25 = .ok (.bipush (-2), 2) := by decide +kernel
theorem dX10_sent_27 : decode cX10_sent 27 = .ok (.ireturn, 1) := by decide +kernel
theorem dX10_sent_28 : decode cX10_sent 28 = .ok (.aload_n 0, 1) := by decide +kernel
theorem dX10_sent_29 : decode cX10_sent 29 = .ok (.iload_n 2, 1) := by decide +kernel
theorem dX10_sent_30 : decode cX10_sent 30 = .ok (.invokevirtual 413, 3) := by decide +kernel
theorem dX10_sent_33 : decode cX10_sent 33 = .ok (.pop, 1) := by decide +kernel
theorem dX10_sent_34 : decode cX10_sent 34 = .ok (.aload_n 0, 1) := by decide +kernel
theorem dX10_sent_35 : decode cX10_sent 35 = .ok (.getfield 89, 3) := by decide +kernel
theorem dX10_sent_38 : decode cX10_sent 38 = .ok (.iload_n 1, 1) := by decide +kernel
theorem dX10_sent_39 : decode cX10_sent 39 = .ok (.iaload, 1) := by decide +kernel
theorem dX10_sent_40 : decode cX10_sent 40 = .ok (.ireturn, 1) := by decide +kernel
theorem dX10_harm_0 : decode cX10_harm 0 = .ok (.aload_n 0, 1) := by decide +kernel
theorem dX10_harm_1 : decode cX10_harm 1 = .ok (.iconst 0, 1) := by decide +kernel
theorem dX10_harm_2 : decode cX10_harm 2 = .ok (.putfield 104, 3) := by decide +kernel
theorem dX10_harm_5 : decode cX10_harm 5 = .ok (.aload_n 0, 1) := by decide +kernel
theorem dX10_harm_6 : decode cX10_harm 6 = .ok (.iload_n 1, 1) := by decide +kernel
theorem dX10_harm_7 : decode cX10_harm 7 = .ok (.invokevirtual 288, 3) := by decide +kernel
theorem dX10_harm_10 : decode cX10_harm 10 = .ok (.ifCond .ne 6, 3) := by decide +kernel
theorem dX10_harm_13 : decode cX10_harm 13 = .ok (.bipush (-2), 2) := by decide +kernel
theorem dX10_harm_15 : decode cX10_harm 15 = .ok (.ireturn, 1) := by decide +kernel
theorem dX10_harm_16 : decode cX10_harm 16 = .ok (.aload_n 0, 1) := by decide +kernel
theorem dX10_harm_17 : decode cX10_harm 17 = .ok (.invokevirtual 384, 3) := by decide +kernel
theorem dX10_harm_20 : decode cX10_harm 20 = .ok (.aload_n 0, 1) := by decide +kernel
theorem dX10_harm_21 : decode cX10_harm 21 = .ok (.aload_n 0, 1) := by decide +kernel
theorem dX10_harm_22 : decode cX10_harm 22 = .ok (.iload_n 1, 1) := by decide +kernel
theorem dX10_harm_23 : decode cX10_harm 23 = .ok (.iconst 0, 1) := by decide +kernel
theorem dX10_harm_24 : decode cX10_harm 24 = .ok (.invokevirtual 285, 3) := by decide +kernel
theorem dX10_harm_27 : decode cX10_harm 27 = .ok (.invokevirtual 416, 3) := by decide +kernel
theorem dX10_harm_30 : decode cX10_harm 30 = .ok (.istore_n 2, 1) := by decide +kernel
theorem dX10_harm_31 : decode cX10_harm 31 = .ok (.aload_n 0, 1) := by decide +kernel
theorem dX10_harm_32 : decode cX10_harm 32 = .ok (.invokevirtual 372, 3) := by decide +kernel
theorem dX10_harm_35 : decode cX10_harm 35 = .ok (.aload_n 0, 1) := by decide +kernel
theorem dX10_harm_36 : decode cX10_harm 36 = .ok (.iload_n 1, 1) := by decide +kernel
theorem dX10_harm_37 : decode cX10_harm 37 = .ok (.putfield 53, 3) := by decide +kernel
theorem dX10_harm_40 : decode cX10_harm 40 = .ok (.aload_n 0, 1) := by decide +kernel
theorem dX10_harm_41 : decode cX10_harm 41 = .ok (.invokevirtual 375, 3) := by decide +kernel
theorem dX10_harm_44 : decode cX10_harm 44 = .ok (.iload_n 2, 1) := by decide +kernel
theorem dX10_harm_45 : decode cX10_harm 45 = .ok (.aload_n 0, 1) := by decide +kernel
theorem dX10_harm_46 : decode cX10_harm 46 = .ok (.aload_n 0, 1) := by decide +kernel
theorem dX10_harm_47 : decode cX10_harm 47 = .ok (.iload_n 1, 1) := by decide +kernel
theorem dX10_harm_48 : decode cX10_harm 48 = .ok (.iconst 0, 1) := by decide +kernel
theorem dX10_harm_49 : decode cX10_harm 49 = .ok (.invokevirtual 285, 3) := by decide +kernel
theorem dX10_harm_52 : decode cX10_harm 52 = .ok (.invokevirtual 416, 3) := by decide +kernel
theorem dX10_harm_55 : decode cX10_harm 55 = .ok (.isub, 1) := by decide +kernel
theorem dX10_harm_56 : decode cX10_harm 56 = .ok (.ireturn, 1) := by decide +kernel
theorem dX10_ewe_0 : decode cX10_ewe 0 = .ok (.aload_n 0, 1) := by decide +kernel
theorem dX10_ewe_1 : decode cX10_ewe 1 = .ok (.iconst 0, 1) := by decide +kernel
theorem dX10_ewe_2 : decode cX10_ewe 2 = .ok (.putfield 104, 3) := by decide +kernel
theorem dX10_ewe_5 : decode cX10_ewe 5 = .ok (.aload_n 0, 1) := by decide +kernel
theorem dX10_ewe_6 : decode cX10_ewe 6 = .ok (.iload_n 1, 1) := by decide +kernel
theorem dX10_ewe_7 : decode cX10_ewe 7 = .ok (.i2l, 1) := by decide +kernel
theorem dX10_ewe_8 : decode cX10_ewe 8 = .ok (.invokevirtual 389, 3) := by decide +kernel
theorem dX10_ewe_11 : decode cX10_ewe 11 = .ok (.ifCond .eq 39, 3) := by decide +kernel
theorem dX10_ewe_14 : decode cX10_ewe 14 = .ok (.aload_n 0, 1) := by decide +kernel
theorem dX10_ewe_15 : decode cX10_ewe 15 = .ok (.iload_n 2, 1) := by decide +kernel
theorem dX10_ewe_16 : decode cX10_ewe 16 = .ok (.invokevirtual 308, 3) := by decide +kernel
theorem dX10_ewe_19 : decode cX10_ewe 19 = .ok (.ifCond .eq 31, 3) := by decide +kernel
theorem dX10_ewe_22 : decode cX10_ewe 22 = .ok (.aload_n 0, 1) := by decide +kernel
theorem dX10_ewe_23 : decode cX10_ewe 23 = .ok (.iload_n 3, 1) := by decide +kernel
theorem dX10_ewe_24 : decode cX10_ewe 24 = .ok (.invokevirtual 381, 3) := by decide +kernel
theorem dX10_ewe_27 : decode cX10_ewe 27 = .ok (.ifCond .eq 23, 3) := by decide +kernel
theorem dX10_ewe_30 : decode cX10_ewe 30 = .ok (.iload 4, 2) := by decide +kernel
theorem dX10_ewe_32 : decode cX10_ewe 32 = .ok (.invokestatic 311, 3) := by decide +kernel
theorem dX10_ewe_35 : decode cX10_ewe 35 = .ok (.ifCond .eq 15, 3) := by decide +kernel
theorem dX10_ewe_38 : decode cX10_ewe 38 = .ok (.aload_n 0, 1) := by decide +kernel
theorem dX10_ewe_39 : decode cX10_ewe 39 = .ok (.iload_n 1, 1) := by decide +kernel
theorem dX10_ewe_40 : decode cX10_ewe 40 = .ok (.iload_n 2, 1) := by decide +kernel
theorem dX10_ewe_41 : decode cX10_ewe 41 = .ok (.iload_n 3, 1) := by decide +kernel
theorem dX10_ewe_42 : decode cX10_ewe 42 = .ok (.iload 4, 2) := by decide +kernel
theorem dX10_ewe_44 : decode cX10_ewe 44 = .ok (.invokevirtual 419, 3) := by decide +kernel
theorem dX10_ewe_47 : decode cX10_ewe 47 = .ok (.goto 5, 3) := by decide +kernel
theorem dX10_ewe_50 : decode cX10_ewe 50 = .ok (.bipush (-2), 2) := by decide +kernel
theorem dX10_ewe_52 : decode cX10_ewe 52 = .ok (.ireturn, 1) := by decide +kernel
theorem dX10_waits_0 : decode cX10_waits 0 = .ok (.aload_n 0, 1) := by decide +kernel
theorem dX10_waits_1 : decode cX10_waits 1 = .ok (.iconst 0, 1) := by decide +kernel
theorem dX10_waits_2 : decode cX10_waits 2 = .ok (.putfield 104, 3) := by decide +kernel
theorem dX10_waits_5 : decode cX10_waits 5 = .ok (.aload_n 0, 1) := by decide +kernel
theorem dX10_waits_6 : decode cX10_waits 6 = .ok (.iload_n 1, 1) := by decide +kernel
theorem dX10_waits_7 : decode cX10_waits 7 = .ok (.i2l, 1) := by decide +kernel
theorem dX10_waits_8 : decode cX10_waits 8 = .ok (.invokevirtual 389, 3) := by decide +kernel
theorem dX10_waits_11 : decode cX10_waits 11 = .ok (.ifCond .eq 30, 3) := by decide +kernel
theorem dX10_waits_14 : decode cX10_waits 14 = .ok (.aload_n 0, 1) := by decide +kernel
theorem dX10_waits_15 : decode cX10_waits 15 = .ok (.iload_n 2, 1) := by decide +kernel
theorem dX10_waits_16 : decode cX10_waits 16 = .ok (.invokevirtual 308, 3) := by decide +kernel
theorem dX10_waits_19 : decode cX10_waits 19 = .ok (.ifCond .eq 22, 3) := by decide +kernel
theorem dX10_waits_22 : decode cX10_waits 22 = .ok (.aload_n 0, 1) := by decide +kernel
theorem dX10_waits_23 : decode cX10_waits 23 = .ok (.iload_n 3, 1) := by decide +kernel
theorem dX10_waits_24 : decode cX10_waits 24 = .ok (.invokevirtual 381, 3) := by decide +kernel
theorem dX10_waits_27 : decode cX10_waits 27 = .ok (.ifCond .eq 14, 3) := by decide +kernel
theorem dX10_waits_30 : decode cX10_waits 30 = .ok (.iload 4, 2) := by decide +kernel
theorem dX10_waits_32 : decode cX10_waits 32 = .ok (.i2l, 1) := by decide +kernel
theorem dX10_waits_33 : decode cX10_waits 33 = .ok (.lconst 0, 1) := by decide +kernel
theorem dX10_waits_34 : decode cX10_waits 34 = .ok (.lconst 1, 1) := by decide +kernel
theorem dX10_waits_35 : decode cX10_waits 35 = .ok (.invokestatic 109, 3) := by decide +kernel
theorem dX10_waits_38 : decode cX10_waits 38 = .ok (.ifCond .ne 6, 3) := by decide +kernel
theorem dX10_waits_41 : decode cX10_waits 41 = .ok (.bipush (-2), 2) := by decide +kernel
theorem dX10_waits_43 : decode cX10_waits 43 = .ok (.ireturn, 1) := by decide +kernel
theorem dX10_waits_44 : decode cX10_waits 44 = .ok (.iconst 0, 1) := by decide +kernel
theorem dX10_waits_45 : decode cX10_waits 45 = .ok (.istore 5, 2) := by decide +kernel
theorem dX10_waits_47 : decode cX10_waits 47 = .ok (.aload_n 0, 1) := by decide +kernel
theorem dX10_waits_48 : decode cX10_waits 48 = .ok (.iload_n 1, 1) := by decide +kernel
theorem dX10_waits_49 : decode cX10_waits 49 = .ok (.iload_n 2, 1) := by decide +kernel
theorem dX10_waits_50 : decode cX10_waits 50 = .ok (.iload_n 3, 1) := by decide +kernel
theorem dX10_waits_51 : decode cX10_waits 51 = .ok (.iconst 0, 1) := by decide +kernel
theorem dX10_waits_52 : decode cX10_waits 52 = .ok (.invokevirtual 419, 3) := by decide +kernel
theorem dX10_waits_55 : decode cX10_waits 55 = .ok (.istore 6, 2) := by decide +kernel
theorem dX10_waits_57 : decode cX10_waits 57 = .ok (.iconst 1, 1) := by decide +kernel
theorem dX10_waits_58 : decode cX10_waits 58 = .ok (.istore 7, 2) := by decide +kernel
theorem dX10_waits_60 : decode cX10_waits 60 = .ok (.iload 7, 2) := by decide +kernel
theorem dX10_waits_62 : decode cX10_waits 62 = .ok (.bipush 24, 2) := by decide +kernel
theorem dX10_waits_64 : decode cX10_waits 64 = .ok (.if_icmp .ge 38, 3) := by decide +kernel
theorem dX10_waits_67 : decode cX10_waits 67 = .ok (.aload_n 0, 1) := by decide +kernel
theorem dX10_waits_68 : decode cX10_waits 68 = .ok (.iload_n 1, 1) := by decide +kernel
theorem dX10_waits_69 : decode cX10_waits 69 = .ok (.iload_n 2, 1) := by decide +kernel
theorem dX10_waits_70 : decode cX10_waits 70 = .ok (.iload_n 3, 1) := by decide +kernel
theorem dX10_waits_71 : decode cX10_waits 71 = .ok (.iload 7, 2) := by decide +kernel
theorem dX10_waits_73 : decode cX10_waits 73 = .ok (.invokevirtual 419, 3) := by decide +kernel
theorem dX10_waits_76 : decode cX10_waits 76 = .ok (.istore 8, 2) := by decide +kernel
theorem dX10_waits_78 : decode cX10_waits 78 = .ok (.iload 8, 2) := by decide +kernel
theorem dX10_waits_80 : decode cX10_waits 80 = .ok (.iload 6, 2) := by decide +kernel
theorem dX10_waits_82 : decode cX10_waits 82 = .ok (.if_icmp .gt 6, 3) := by decide +kernel
theorem dX10_waits_85 : decode cX10_waits 85 = .ok (.goto 11, 3) := by decide +kernel
theorem dX10_waits_88 : decode cX10_waits 88 = .ok (.iload 7, 2) := by decide +kernel
theorem dX10_waits_90 : decode cX10_waits 90 = .ok (.istore 5, 2) := by decide +kernel
theorem dX10_waits_92 : decode cX10_waits 92 = .ok (.iload 8, 2) := by decide +kernel
theorem dX10_waits_94 : decode cX10_waits 94 = .ok (.istore 6, 2) := by decide +kernel
theorem dX10_waits_96 : decode cX10_waits 96 = .ok (.iinc 7 1, 3) := by decide +kernel
theorem dX10_waits_99 : decode cX10_waits 99 = .ok (.goto (-39), 3) := by decide +kernel
theorem dX10_waits_102 : decode cX10_waits 102 = .ok (.iload 4, 2) := by decide +kernel
theorem dX10_waits_104 : decode cX10_waits 104 = .ok (.ifCond .ne 8, 3) := by decide +kernel
theorem dX10_waits_107 : decode cX10_waits 107 = .ok (.iload 5, 2) := by decide +kernel
theorem dX10_waits_109 : decode cX10_waits 109 = .ok (.goto 5, 3) := by decide +kernel
theorem dX10_waits_112 : decode cX10_waits 112 = .ok (.iload 6, 2) := by decide +kernel
theorem dX10_waits_114 : decode cX10_waits 114 = .ok (.ireturn, 1) := by decide +kernel
theorem dX10_ring_0 : decode cX10_ring 0 = .ok (.aload_n 0, 1) := by decide +kernel
theorem dX10_ring_1 : decode cX10_ring 1 = .ok (.iconst 0, 1) := by decide +kernel
theorem dX10_ring_2 : decode cX10_ring 2 = .ok (.putfield 104, 3) := by decide +kernel
theorem dX10_ring_5 : decode cX10_ring 5 = .ok (.aload_n 0, 1) := by decide +kernel
theorem dX10_ring_6 : decode cX10_ring 6 = .ok (.iload_n 1, 1) := by decide +kernel
theorem dX10_ring_7 : decode cX10_ring 7 = .ok (.invokevirtual 308, 3) := by decide +kernel
theorem dX10_ring_10 : decode cX10_ring 10 = .ok (.ifCond .eq 27, 3) := by decide +kernel
theorem dX10_ring_13 : decode cX10_ring 13 = .ok (.iload_n 2, 1) := by decide +kernel
theorem dX10_ring_14 : decode cX10_ring 14 = .ok (.i2l, 1) := by decide +kernel
theorem dX10_ring_15 : decode cX10_ring 15 = .ok (.lconst 1, 1) := by decide +kernel
theorem dX10_ring_16 : decode cX10_ring 16 = .ok (.ldc2_w 306, 3) := by decide +kernel
theorem dX10_ring_19 : decode cX10_ring 19 = .ok (.invokestatic 109, 3) := by decide +kernel
theorem dX10_ring_22 : decode cX10_ring 22 = .ok (.ifCond .eq 15, 3) := by decide +kernel
theorem dX10_ring_25 : decode cX10_ring 25 = .ok (.iload_n 3, 1) := by decide +kernel
theorem dX10_ring_26 : decode cX10_ring 26 = .ok (.i2l, 1) := by decide +kernel
theorem dX10_ring_27 : decode cX10_ring 27 = .ok (.lconst 0, 1) := by decide +kernel
theorem dX10_ring_28 : decode cX10_ring 28 = .ok (.ldc2_w 423, 3) := by decide +kernel
theorem dX10_ring_31 : decode cX10_ring 31 = .ok (.invokestatic 109, 3) := by decide +kernel
theorem dX10_ring_34 : decode cX10_ring 34 = .ok (.ifCond .ne 6, 3) := by decide +kernel
theorem dX10_ring_37 : decode cX10_ring 37 = .ok (.bipush (-2), 2) := by decide +kernel
theorem dX10_ring_39 : decode cX10_ring 39 = .ok (.ireturn, 1) := by decide +kernel
theorem dX10_ring_40 : decode cX10_ring 40 = .ok (.aload_n 0, 1) := by decide +kernel
theorem dX10_ring_41 : decode cX10_ring 41 = .ok (.invokevirtual 384, 3) := by decide +kernel
theorem dX10_ring_44 : decode cX10_ring 44 = .ok (.aload_n 0, 1) := by decide +kernel
theorem dX10_ring_45 : decode cX10_ring 45 = .ok (.getfield 59, 3) := by decide +kernel
theorem dX10_ring_48 : decode cX10_ring 48 = .ok (.aload_n 0, 1) := by decide +kernel
theorem dX10_ring_49 : decode cX10_ring 49 = .ok (.iload_n 1, 1) := by decide +kernel
theorem dX10_ring_50 : decode cX10_ring 50 = .ok (.invokevirtual 334, 3) := by decide +kernel
theorem dX10_ring_53 : decode cX10_ring 53 = .ok (.iaload, 1) := by decide +kernel
theorem dX10_ring_54 : decode cX10_ring 54 = .ok (.istore 4, 2) := by decide +kernel
theorem dX10_ring_56 : decode cX10_ring 56 = .ok (.iconst 0, 1) := by decide +kernel
theorem dX10_ring_57 : decode cX10_ring 57 = .ok (.istore 5, 2) := by decide +kernel
theorem dX10_ring_59 : decode cX10_ring 59 = .ok (.iconst 0, 1) := by decide +kernel
theorem dX10_ring_60 : decode cX10_ring 60 = .ok (.istore 6, 2) := by decide +kernel
theorem dX10_ring_62 : decode cX10_ring 62 = .ok (.iload 6, 2) := by decide +kernel
theorem dX10_ring_64 : decode cX10_ring 64 = .ok (.iload_n 2, 1) := by decide +kernel
theorem dX10_ring_65 : decode cX10_ring 65 = .ok (.iload_n 3, 1) := by decide +kernel
theorem dX10_ring_66 : decode cX10_ring 66 = .ok (.imul, 1) := by decide +kernel
theorem dX10_ring_67 : decode cX10_ring 67 = .ok (.if_icmp .ge 32, 3) := by decide +kernel
theorem dX10_ring_70 : decode cX10_ring 70 = .ok (.iinc 4 1, 3) := by decide +kernel
theorem dX10_ring_73 : decode cX10_ring 73 = .ok (.iload 4, 2) := by decide +kernel
theorem dX10_ring_75 : decode cX10_ring 75 = .ok (.aload_n 0, 1) := by decide +kernel
theorem dX10_ring_76 : decode cX10_ring 76 = .ok (.getfield 37, 3) := by decide +kernel
theorem dX10_ring_79 : decode cX10_ring 79 = .ok (.iconst 3, 1) := by decide +kernel
theorem dX10_ring_80 : decode cX10_ring 80 = .ok (.iaload, 1) := by decide +kernel
theorem dX10_ring_81 : decode cX10_ring 81 = .ok (.if_icmp .ge 6, 3) := by decide +kernel
theorem dX10_ring_84 : decode cX10_ring 84 = .ok (.goto 9, 3) := by decide +kernel
theorem dX10_ring_87 : decode cX10_ring 87 = .ok (.iconst 0, 1) := by decide +kernel
theorem dX10_ring_88 : decode cX10_ring 88 = .ok (.istore 4, 2) := by decide +kernel
theorem dX10_ring_90 : decode cX10_ring 90 = .ok (.iinc 5 1, 3) := by decide +kernel
theorem dX10_ring_93 : decode cX10_ring 93 = .ok (.iinc 6 1, 3) := by decide +kernel
theorem dX10_ring_96 : decode cX10_ring 96 = .ok (.goto (-34), 3) := by decide +kernel
theorem dX10_ring_99 : decode cX10_ring 99 = .ok (.iload 5, 2) := by decide +kernel
theorem dX10_ring_101 : decode cX10_ring 101 = .ok (.ireturn, 1) := by decide +kernel
theorem dX10_rounds_0 : decode cX10_rounds 0 = .ok (.aload_n 0, 1) := by decide +kernel
theorem dX10_rounds_1 : decode cX10_rounds 1 = .ok (.iconst 0, 1) := by decide +kernel
theorem dX10_rounds_2 : decode cX10_rounds 2 = .ok (.putfield 104, 3) := by decide +kernel
theorem dX10_rounds_5 : decode cX10_rounds 5 = .ok (.aload_n 0, 1) := by decide +kernel
theorem dX10_rounds_6 : decode cX10_rounds 6 = .ok (.iload_n 1, 1) := by decide +kernel
theorem dX10_rounds_7 : decode cX10_rounds 7 = .ok (.invokevirtual 308, 3) := by decide +kernel
theorem dX10_rounds_10 : decode cX10_rounds 10 = .ok (.ifCond .eq 15, 3) := by decide +kernel
theorem dX10_rounds_13 : decode cX10_rounds 13 = .ok (.iload_n 2, 1) := by decide +kernel
theorem dX10_rounds_14 : decode cX10_rounds 14 = .ok (.i2l, 1) := by decide +kernel
theorem dX10_rounds_15 : decode cX10_rounds 15 = .ok (.lconst 1, 1) := by decide +kernel
theorem dX10_rounds_16 : decode cX10_rounds 16 = .ok (.ldc2_w 306, 3) := by decide +kernel
theorem dX10_rounds_19 : decode cX10_rounds 19 = .ok (.invokestatic 109, 3) := by decide +kernel
theorem dX10_rounds_22 : decode cX10_rounds 22 = .ok (.ifCond .ne 6, 3) := by decide +kernel
theorem dX10_rounds_25 : decode cX10_rounds 25 = .ok (.bipush (-2), 2) := by decide +kernel
theorem dX10_rounds_27 : decode cX10_rounds 27 = .ok (.ireturn, 1) := by decide +kernel
theorem dX10_rounds_28 : decode cX10_rounds 28 = .ok (.aload_n 0, 1) := by decide +kernel
theorem dX10_rounds_29 : decode cX10_rounds 29 = .ok (.invokevirtual 384, 3) := by decide +kernel
theorem dX10_rounds_32 : decode cX10_rounds 32 = .ok (.aload_n 0, 1) := by decide +kernel
theorem dX10_rounds_33 : decode cX10_rounds 33 = .ok (.getfield 59, 3) := by decide +kernel
theorem dX10_rounds_36 : decode cX10_rounds 36 = .ok (.aload_n 0, 1) := by decide +kernel
theorem dX10_rounds_37 : decode cX10_rounds 37 = .ok (.iload_n 1, 1) := by decide +kernel
theorem dX10_rounds_38 : decode cX10_rounds 38 = .ok (.invokevirtual 334, 3) := by decide +kernel
theorem dX10_rounds_41 : decode cX10_rounds 41 = .ok (.iaload, 1) := by decide +kernel
theorem dX10_rounds_42 : decode cX10_rounds 42 = .ok (.istore_n 3, 1) := by decide +kernel
theorem dX10_rounds_43 : decode cX10_rounds 43 = .ok (.iconst 1, 1) := by decide +kernel
theorem dX10_rounds_44 : decode cX10_rounds 44 = .ok (.istore 4, 2) := by decide +kernel
theorem dX10_rounds_46 : decode cX10_rounds 46 = .ok (.iload 4, 2) := by decide +kernel
theorem dX10_rounds_48 : decode cX10_rounds 48 = .ok (.aload_n 0, 1) := by decide +kernel
theorem dX10_rounds_49 : decode cX10_rounds 49 = .ok (.getfield 37, 3) := by decide +kernel
theorem dX10_rounds_52 : decode cX10_rounds 52 = .ok (.iconst 3, 1) := by decide +kernel
theorem dX10_rounds_53 : decode cX10_rounds 53 = .ok (.iaload, 1) := by decide +kernel
theorem dX10_rounds_54 : decode cX10_rounds 54 = .ok (.if_icmp .gt 51, 3) := by decide +kernel
theorem dX10_rounds_57 : decode cX10_rounds 57 = .ok (.iconst 0, 1) := by decide +kernel
theorem dX10_rounds_58 : decode cX10_rounds 58 = .ok (.istore 5, 2) := by decide +kernel
theorem dX10_rounds_60 : decode cX10_rounds 60 = .ok (.iload 5, 2) := by decide +kernel
theorem dX10_rounds_62 : decode cX10_rounds 62 = .ok (.iload_n 2, 1) := by decide +kernel
theorem dX10_rounds_63 : decode cX10_rounds 63 = .ok (.if_icmp .ge 29, 3) := by decide +kernel
theorem dX10_rounds_66 : decode cX10_rounds 66 = .ok (.iload_n 3, 1) := by decide +kernel
theorem dX10_rounds_67 : decode cX10_rounds 67 = .ok (.iconst 1, 1) := by decide +kernel
theorem dX10_rounds_68 : decode cX10_rounds 68 = .ok (.iadd, 1) := by decide +kernel
theorem dX10_rounds_69 : decode cX10_rounds 69 = .ok (.aload_n 0, 1) := by decide +kernel
theorem dX10_rounds_70 : decode cX10_rounds 70 = .ok (.getfield 37, 3) := by decide +kernel
theorem dX10_rounds_73 : decode cX10_rounds 73 = .ok (.iconst 3, 1) := by decide +kernel
theorem dX10_rounds_74 : decode cX10_rounds 74 = .ok (.iaload, 1) := by decide +kernel
theorem dX10_rounds_75 : decode cX10_rounds 75 = .ok (.if_icmp .ge 9, 3) := by decide +kernel
theorem dX10_rounds_78 : decode cX10_rounds 78 = .ok (.iload_n 3, 1) := by decide +kernel
theorem dX10_rounds_79 : decode cX10_rounds 79 = .ok (.iconst 1, 1) := by decide +kernel
theorem dX10_rounds_80 : decode cX10_rounds 80 = .ok (.iadd, 1) := by decide +kernel
theorem dX10_rounds_81 : decode cX10_rounds 81 = .ok (.goto 4, 3) := by decide +kernel
theorem dX10_rounds_84 : decode cX10_rounds 84 = .ok (.iconst 0, 1) := by decide +kernel
theorem dX10_rounds_85 : decode cX10_rounds 85 = .ok (.istore_n 3, 1) := by decide +kernel
theorem dX10_rounds_86 : decode cX10_rounds 86 = .ok (.iinc 5 1, 3) := by decide +kernel
theorem dX10_rounds_89 : decode cX10_rounds 89 = .ok (.goto (-29), 3) := by decide +kernel
theorem dX10_rounds_92 : decode cX10_rounds 92 = .ok (.iload_n 3, 1) := by decide +kernel
theorem dX10_rounds_93 : decode cX10_rounds 93 = .ok (.ifCond .ne 6, 3) := by decide +kernel
theorem dX10_rounds_96 : decode cX10_rounds 96 = .ok (.iload 4, 2) := by decide +kernel
theorem dX10_rounds_98 : decode cX10_rounds 98 = .ok (.ireturn, 1) := by decide +kernel
theorem dX10_rounds_99 : decode cX10_rounds 99 = .ok (.iinc 4 1, 3) := by decide +kernel
theorem dX10_rounds_102 : decode cX10_rounds 102 = .ok (.goto (-56), 3) := by decide +kernel
theorem dX10_rounds_105 : decode cX10_rounds 105 = .ok (.iconst (-1), 1) := by decide +kernel
theorem dX10_rounds_106 : decode cX10_rounds 106 = .ok (.ireturn, 1) := by decide +kernel
theorem dX10_whyNotOrders_0 : decode cX10_whyNotOrders 0 = .ok (.iload_n 1, 1) := by decide +kernel
theorem dX10_whyNotOrders_1 : decode cX10_whyNotOrders 1 = .ok (.invokestatic 113, 3) := by decide +kernel
theorem dX10_whyNotOrders_4 : decode cX10_whyNotOrders 4 = .ok (.ifCond .eq 19, 3) := by decide +kernel
theorem dX10_whyNotOrders_7 : decode cX10_whyNotOrders 7 = .ok (.aload_n 0, 1) := by decide +kernel
theorem dX10_whyNotOrders_8 : decode cX10_whyNotOrders 8 = .ok (.iload_n 2, 1) := by decide +kernel
theorem dX10_whyNotOrders_9 : decode cX10_whyNotOrders 9 = .ok (.invokevirtual 308, 3) := by decide +kernel
theorem dX10_whyNotOrders_12 : decode cX10_whyNotOrders 12 = .ok (.ifCond .eq 11, 3) := by decide +kernel
theorem dX10_whyNotOrders_15 : decode cX10_whyNotOrders 15 = .ok (.aload_n 0, 1) := by decide +kernel
theorem dX10_whyNotOrders_16 : decode cX10_whyNotOrders 16 = .ok (.iload_n 3, 1) := by decide +kernel
theorem dX10_whyNotOrders_17 : decode cX10_whyNotOrders 17 = .ok (.invokevirtual 381, 3) := by decide +kernel
theorem dX10_whyNotOrders_20 : decode cX10_whyNotOrders 20 = .ok (.ifCond .ne 6, 3) := by decide +kernel
theorem dX10_whyNotOrders_23 : decode cX10_whyNotOrders 23 = .ok (.bipush (-2), 2) := by decide +kernel
theorem dX10_whyNotOrders_25 : decode cX10_whyNotOrders 25 = .ok (.ireturn, 1) := by decide +kernel
theorem dX10_whyNotOrders_26 : decode cX10_whyNotOrders 26 = .ok (.aload_n 0, 1) := by decide +kernel
theorem dX10_whyNotOrders_27 : decode cX10_whyNotOrders 27 = .ok (.getfield 7, 3) := by decide +kernel
theorem dX10_whyNotOrders_30 : decode cX10_whyNotOrders 30 = .ok (.iload_n 1, 1) := by decide +kernel
theorem dX10_whyNotOrders_31 : decode cX10_whyNotOrders 31 = .ok (.iaload, 1) := by decide +kernel
theorem dX10_whyNotOrders_32 : decode cX10_whyNotOrders 32 = .ok (.iconst (-1), 1) := by decide +kernel
theorem dX10_whyNotOrders_33 : decode cX10_whyNotOrders 33 = .ok (.if_icmp .ne 6, 3) := by decide +kernel
theorem dX10_whyNotOrders_36 : decode cX10_whyNotOrders 36 = .ok (.bipush (-6), 2) := by decide +kernel
theorem dX10_whyNotOrders_38 : decode cX10_whyNotOrders 38 = .ok (.ireturn, 1) := by decide +kernel
theorem dX10_whyNotOrders_39 : decode cX10_whyNotOrders 39 = .ok (.aload_n 0, 1) := by decide +kernel
theorem dX10_whyNotOrders_40 : decode cX10_whyNotOrders 40 = .ok (.iconst 0, 1) := by decide +kernel
theorem dX10_whyNotOrders_41 : decode cX10_whyNotOrders 41 = .ok (.putfield 425, 3) := by decide +kernel
theorem dX10_whyNotOrders_44 : decode cX10_whyNotOrders 44 = .ok (.iconst 0, 1) := by decide +kernel
theorem dX10_whyNotOrders_45 : decode cX10_whyNotOrders 45 = .ok (.istore 4, 2) := by decide +kernel
theorem dX10_whyNotOrders_47 : decode cX10_whyNotOrders 47 = .ok (.iload 4, 2) := by decide +kernel
theorem dX10_whyNotOrders_49 : decode cX10_whyNotOrders 49 = .ok (.aload_n 0, 1) := by decide +kernel
theorem dX10_whyNotOrders_50 : decode cX10_whyNotOrders 50 = .ok (.getfield 34, 3) := by decide +kernel
theorem dX10_whyNotOrders_53 : decode cX10_whyNotOrders 53 = .ok (.iconst 3, 1) := by decide +kernel
theorem dX10_whyNotOrders_54 : decode cX10_whyNotOrders 54 = .ok (.iaload, 1) := by decide +kernel
theorem dX10_whyNotOrders_55 : decode cX10_whyNotOrders 55 = .ok (.if_icmp .ge 57, 3) := by decide +kernel
theorem dX10_whyNotOrders_58 : decode cX10_whyNotOrders 58 = .ok (.aload_n 0, 1) := by decide +kernel
theorem dX10_whyNotOrders_59 : decode cX10_whyNotOrders 59 = .ok (.iload 4, 2) := by decide +kernel
theorem dX10_whyNotOrders_61 : decode cX10_whyNotOrders 61 = .ok (.iconst 1, 1) := by decide +kernel
theorem dX10_whyNotOrders_62 : decode cX10_whyNotOrders 62 = .ok (.invokevirtual 285, 3) := by decide +kernel
theorem dX10_whyNotOrders_65 : decode cX10_whyNotOrders 65 = .ok (.iload_n 2, 1) := by decide +kernel
theorem dX10_whyNotOrders_66 : decode cX10_whyNotOrders 66 = .ok (.if_icmp .ne 40, 3) := by decide +kernel
theorem dX10_whyNotOrders_69 : decode cX10_whyNotOrders 69 = .ok (.aload_n 0, 1) := by decide +kernel
theorem dX10_whyNotOrders_70 : decode cX10_whyNotOrders 70 = .ok (.iload 4, 2) := by decide +kernel
theorem dX10_whyNotOrders_72 : decode cX10_whyNotOrders 72 = .ok (.invokevirtual 293, 3) := by decide +kernel
theorem dX10_whyNotOrders_75 : decode cX10_whyNotOrders 75 = .ok (.bipush 24, 2) := by decide +kernel
theorem dX10_whyNotOrders_77 : decode cX10_whyNotOrders 77 = .ok (.idiv, 1) := by decide +kernel
theorem dX10_whyNotOrders_78 : decode cX10_whyNotOrders 78 = .ok (.iload_n 3, 1) := by decide +kernel
theorem dX10_whyNotOrders_79 : decode cX10_whyNotOrders 79 = .ok (.if_icmp .eq 6, 3) := by decide +kernel
theorem dX10_whyNotOrders_82 : decode cX10_whyNotOrders 82 = .ok (.goto 24, 3) := by decide +kernel
theorem dX10_whyNotOrders_85 : decode cX10_whyNotOrders 85 = .ok (.aload_n 0, 1) := by decide +kernel
theorem dX10_whyNotOrders_86 : decode cX10_whyNotOrders 86 = .ok (.getfield 92, 3) := by decide +kernel
theorem dX10_whyNotOrders_89 : decode cX10_whyNotOrders 89 = .ok (.aload_n 0, 1) := by decide +kernel
theorem dX10_whyNotOrders_90 : decode cX10_whyNotOrders 90 = .ok (.getfield 425, 3) := by decide +kernel
theorem dX10_whyNotOrders_93 : decode cX10_whyNotOrders 93 = .ok (.iload 4, 2) := by decide +kernel
theorem dX10_whyNotOrders_95 : decode cX10_whyNotOrders 95 = .ok (.iastore, 1) := by decide +kernel
theorem dX10_whyNotOrders_96 : decode cX10_whyNotOrders 96 = .ok (.aload_n 0, 1) := by decide +kernel
theorem dX10_whyNotOrders_97 : decode cX10_whyNotOrders 97 = .ok (.dup, 1) := by decide +kernel
theorem dX10_whyNotOrders_98 : decode cX10_whyNotOrders 98 = .ok (.getfield 425, 3) := by decide +kernel
theorem dX10_whyNotOrders_101 : decode cX10_whyNotOrders 101 = .ok (.iconst 1, 1) := by decide +kernel
theorem dX10_whyNotOrders_102 : decode cX10_whyNotOrders 102 = .ok (.iadd, 1) := by decide +kernel
theorem dX10_whyNotOrders_103 : decode cX10_whyNotOrders 103 = .ok (.putfield 425, 3) := by decide +kernel
theorem dX10_whyNotOrders_106 : decode cX10_whyNotOrders 106 = .ok (.iinc 4 1, 3) := by decide +kernel
theorem dX10_whyNotOrders_109 : decode cX10_whyNotOrders 109 = .ok (.goto (-62), 3) := by decide +kernel
theorem dX10_whyNotOrders_112 : decode cX10_whyNotOrders 112 = .ok (.aload_n 0, 1) := by decide +kernel
theorem dX10_whyNotOrders_113 : decode cX10_whyNotOrders 113 = .ok (.getfield 425, 3) := by decide +kernel
theorem dX10_whyNotOrders_116 : decode cX10_whyNotOrders 116 = .ok (.bipush 6, 2) := by decide +kernel
theorem dX10_whyNotOrders_118 : decode cX10_whyNotOrders 118 = .ok (.if_icmp .le 6, 3) := by decide +kernel
theorem dX10_whyNotOrders_121 : decode cX10_whyNotOrders 121 = .ok (.bipush (-3), 2) := by decide +kernel
theorem dX10_whyNotOrders_123 : decode cX10_whyNotOrders 123 = .ok (.ireturn, 1) := by decide +kernel
theorem dX10_whyNotOrders_124 : decode cX10_whyNotOrders 124 = .ok (.iconst 0, 1) := by decide +kernel
theorem dX10_whyNotOrders_125 : decode cX10_whyNotOrders 125 = .ok (.istore 4, 2) := by decide +kernel
theorem dX10_whyNotOrders_127 : decode cX10_whyNotOrders 127 = .ok (.iload 4, 2) := by decide +kernel
theorem dX10_whyNotOrders_129 : decode cX10_whyNotOrders 129 = .ok (.aload_n 0, 1) := by decide +kernel
theorem dX10_whyNotOrders_130 : decode cX10_whyNotOrders 130 = .ok (.getfield 13, 3) := by decide +kernel
theorem dX10_whyNotOrders_133 : decode cX10_whyNotOrders 133 = .ok (.iload_n 1, 1) := by decide +kernel
theorem dX10_whyNotOrders_134 : decode cX10_whyNotOrders 134 = .ok (.iaload, 1) := by decide +kernel
theorem dX10_whyNotOrders_135 : decode cX10_whyNotOrders 135 = .ok (.if_icmp .ge 31, 3) := by decide +kernel
theorem dX10_whyNotOrders_138 : decode cX10_whyNotOrders 138 = .ok (.aload_n 0, 1) := by decide +kernel
theorem dX10_whyNotOrders_139 : decode cX10_whyNotOrders 139 = .ok (.aload_n 0, 1) := by decide +kernel
theorem dX10_whyNotOrders_140 : decode cX10_whyNotOrders 140 = .ok (.getfield 16, 3) := by decide +kernel
theorem dX10_whyNotOrders_143 : decode cX10_whyNotOrders 143 = .ok (.bipush 60, 2) := by decide +kernel
theorem dX10_whyNotOrders_145 : decode cX10_whyNotOrders 145 = .ok (.iload_n 1, 1) := by decide +kernel
theorem dX10_whyNotOrders_146 : decode cX10_whyNotOrders 146 = .ok (.imul, 1) := by decide +kernel
theorem dX10_whyNotOrders_147 : decode cX10_whyNotOrders 147 = .ok (.iload 4, 2) := by decide +kernel
theorem dX10_whyNotOrders_149 : decode cX10_whyNotOrders 149 = .ok (.iadd, 1) := by decide +kernel
theorem dX10_whyNotOrders_150 : decode cX10_whyNotOrders 150 = .ok (.laload, 1) := by decide +kernel
theorem dX10_whyNotOrders_151 : decode cX10_whyNotOrders 151 = .ok (.invokevirtual 389, 3) := by decide +kernel
theorem dX10_whyNotOrders_154 : decode cX10_whyNotOrders 154 = .ok (.ifCond .ne 6, 3) := by decide +kernel
theorem dX10_whyNotOrders_157 : decode cX10_whyNotOrders 157 = .ok (.bipush (-2), 2) := by decide +kernel
theorem dX10_whyNotOrders_159 : decode cX10_whyNotOrders 159 = .ok (.ireturn, 1) := by decide +kernel
theorem dX10_whyNotOrders_160 : decode cX10_whyNotOrders 160 = .ok (.iinc 4 1, 3) := by decide +kernel
theorem dX10_whyNotOrders_163 : decode cX10_whyNotOrders 163 = .ok (.goto (-36), 3) := by decide +kernel
theorem dX10_whyNotOrders_166 : decode cX10_whyNotOrders 166 = .ok (.aload_n 0, 1) := by decide +kernel
theorem dX10_whyNotOrders_167 : decode cX10_whyNotOrders 167 = .ok (.invokevirtual 372, 3) := by decide +kernel
theorem dX10_whyNotOrders_170 : decode cX10_whyNotOrders 170 = .ok (.aload_n 0, 1) := by decide +kernel
theorem dX10_whyNotOrders_171 : decode cX10_whyNotOrders 171 = .ok (.bipush 24, 2) := by decide +kernel
theorem dX10_whyNotOrders_173 : decode cX10_whyNotOrders 173 = .ok (.iload_n 3, 1) := by decide +kernel
theorem dX10_whyNotOrders_174 : decode cX10_whyNotOrders 174 = .ok (.imul, 1) := by decide +kernel
theorem dX10_whyNotOrders_175 : decode cX10_whyNotOrders 175 = .ok (.iconst 1, 1) := by decide +kernel
theorem dX10_whyNotOrders_176 : decode cX10_whyNotOrders 176 = .ok (.isub, 1) := by decide +kernel
theorem dX10_whyNotOrders_177 : decode cX10_whyNotOrders 177 = .ok (.putfield 354, 3) := by decide +kernel
theorem dX10_whyNotOrders_180 : decode cX10_whyNotOrders 180 = .ok (.aload_n 0, 1) := by decide +kernel
theorem dX10_whyNotOrders_181 : decode cX10_whyNotOrders 181 = .ok (.invokevirtual 375, 3) := by decide +kernel
theorem dX10_whyNotOrders_184 : decode cX10_whyNotOrders 184 = .ok (.aload_n 0, 1) := by decide +kernel
theorem dX10_whyNotOrders_185 : decode cX10_whyNotOrders 185 = .ok (.iload_n 3, 1) := by decide +kernel
theorem dX10_whyNotOrders_186 : decode cX10_whyNotOrders 186 = .ok (.invokevirtual 363, 3) := by decide +kernel
theorem dX10_whyNotOrders_189 : decode cX10_whyNotOrders 189 = .ok (.aload_n 0, 1) := by decide +kernel
theorem dX10_whyNotOrders_190 : decode cX10_whyNotOrders 190 = .ok (.getfield 37, 3) := by decide +kernel
theorem dX10_whyNotOrders_193 : decode cX10_whyNotOrders 193 = .ok (.iconst 0, 1) := by decide +kernel
theorem dX10_whyNotOrders_194 : decode cX10_whyNotOrders 194 = .ok (.iaload, 1) := by decide +kernel
theorem dX10_whyNotOrders_195 : decode cX10_whyNotOrders 195 = .ok (.iconst 1, 1) := by decide +kernel
theorem dX10_whyNotOrders_196 : decode cX10_whyNotOrders 196 = .ok (.if_icmp .ne 66, 3) := by decide +kernel
theorem dX10_whyNotOrders_199 : decode cX10_whyNotOrders 199 = .ok (.iconst 0, 1) := by decide +kernel
theorem dX10_whyNotOrders_200 : decode cX10_whyNotOrders 200 = .ok (.istore 4, 2) := by decide +kernel
theorem dX10_whyNotOrders_202 : decode cX10_whyNotOrders 202 = .ok (.iload 4, 2) := by decide +kernel
theorem dX10_whyNotOrders_204 : decode cX10_whyNotOrders 204 = .ok (.aload_n 0, 1) := by decide +kernel
theorem dX10_whyNotOrders_205 : decode cX10_whyNotOrders 205 = .ok (.getfield 318, 3) := by decide +kernel
theorem dX10_whyNotOrders_208 : decode cX10_whyNotOrders 208 = .ok (.if_icmp .ge 54, 3) := by decide +kernel
theorem dX10_whyNotOrders_211 : decode cX10_whyNotOrders 211 = .ok (.aload_n 0, 1) := by decide +kernel
theorem dX10_whyNotOrders_212 : decode cX10_whyNotOrders 212 = .ok (.aload_n 0, 1) := by decide +kernel
theorem dX10_whyNotOrders_213 : decode cX10_whyNotOrders 213 = .ok (.getfield 56, 3) := by decide +kernel
theorem dX10_whyNotOrders_216 : decode cX10_whyNotOrders 216 = .ok (.iload 4, 2) := by decide +kernel
theorem dX10_whyNotOrders_218 : decode cX10_whyNotOrders 218 = .ok (.iaload, 1) := by decide +kernel
theorem dX10_whyNotOrders_219 : decode cX10_whyNotOrders 219 = .ok (.invokevirtual 293, 3) := by decide +kernel
theorem dX10_whyNotOrders_222 : decode cX10_whyNotOrders 222 = .ok (.bipush 24, 2) := by decide +kernel
theorem dX10_whyNotOrders_224 : decode cX10_whyNotOrders 224 = .ok (.idiv, 1) := by decide +kernel
theorem dX10_whyNotOrders_225 : decode cX10_whyNotOrders 225 = .ok (.iload_n 3, 1) := by decide +kernel
theorem dX10_whyNotOrders_226 : decode cX10_whyNotOrders 226 = .ok (.if_icmp .ne 30, 3) := by decide +kernel
theorem dX10_whyNotOrders_229 : decode cX10_whyNotOrders 229 = .ok (.aload_n 0, 1) := by decide +kernel
theorem dX10_whyNotOrders_230 : decode cX10_whyNotOrders 230 = .ok (.aload_n 0, 1) := by decide +kernel
theorem dX10_whyNotOrders_231 : decode cX10_whyNotOrders 231 = .ok (.getfield 56, 3) := by decide +kernel
theorem dX10_whyNotOrders_234 : decode cX10_whyNotOrders 234 = .ok (.iload 4, 2) := by decide +kernel
theorem dX10_whyNotOrders_236 : decode cX10_whyNotOrders 236 = .ok (.iaload, 1) := by decide +kernel
theorem dX10_whyNotOrders_237 : decode cX10_whyNotOrders 237 = .ok (.iconst 1, 1) := by decide +kernel
theorem dX10_whyNotOrders_238 : decode cX10_whyNotOrders 238 = .ok (.invokevirtual 285, 3) := by decide +kernel
theorem dX10_whyNotOrders_241 : decode cX10_whyNotOrders 241 = .ok (.iload_n 2, 1) := by decide +kernel
theorem dX10_whyNotOrders_242 : decode cX10_whyNotOrders 242 = .ok (.if_icmp .eq 14, 3) := by decide +kernel
theorem dX10_whyNotOrders_245 : decode cX10_whyNotOrders 245 = .ok (.aload_n 0, 1) := by decide +kernel
theorem dX10_whyNotOrders_246 : decode cX10_whyNotOrders 246 = .ok (.aload_n 0, 1) := by decide +kernel
theorem dX10_whyNotOrders_247 : decode cX10_whyNotOrders 247 = .ok (.getfield 56, 3) := by decide +kernel
theorem dX10_whyNotOrders_250 : decode cX10_whyNotOrders 250 = .ok (.iload 4, 2) := by decide +kernel
theorem dX10_whyNotOrders_252 : decode cX10_whyNotOrders 252 = .ok (.iaload, 1) := by decide +kernel
theorem dX10_whyNotOrders_253 : decode cX10_whyNotOrders 253 = .ok (.invokevirtual 428, 3) := by decide +kernel
theorem dX10_whyNotOrders_256 : decode cX10_whyNotOrders 256 = .ok (.iinc 4 1, 3) := by decide +kernel
theorem dX10_whyNotOrders_259 : decode cX10_whyNotOrders 259 = .ok (.goto (-57), 3) := by decide +kernel
theorem dX10_whyNotOrders_262 : decode cX10_whyNotOrders 262 = .ok (.aload_n 0, 1) := by decide +kernel
theorem dX10_whyNotOrders_263 : decode cX10_whyNotOrders 263 = .ok (.aload_n 0, 1) := by decide +kernel
theorem dX10_whyNotOrders_264 : decode cX10_whyNotOrders 264 = .ok (.getfield 59, 3) := by decide +kernel
theorem dX10_whyNotOrders_267 : decode cX10_whyNotOrders 267 = .ok (.aload_n 0, 1) := by decide +kernel
theorem dX10_whyNotOrders_268 : decode cX10_whyNotOrders 268 = .ok (.iload_n 2, 1) := by decide +kernel
theorem dX10_whyNotOrders_269 : decode cX10_whyNotOrders 269 = .ok (.invokevirtual 334, 3) := by decide +kernel
theorem dX10_whyNotOrders_272 : decode cX10_whyNotOrders 272 = .ok (.iaload, 1) := by decide +kernel
theorem dX10_whyNotOrders_273 : decode cX10_whyNotOrders 273 = .ok (.putfield 431, 3) := by decide +kernel
theorem dX10_whyNotOrders_276 : decode cX10_whyNotOrders 276 = .ok (.aload_n 0, 1) := by decide +kernel
theorem dX10_whyNotOrders_277 : decode cX10_whyNotOrders 277 = .ok (.iconst 0, 1) := by decide +kernel
theorem dX10_whyNotOrders_278 : decode cX10_whyNotOrders 278 = .ok (.putfield 434, 3) := by decide +kernel
theorem dX10_whyNotOrders_281 : decode cX10_whyNotOrders 281 = .ok (.iconst 0, 1) := by decide +kernel
theorem dX10_whyNotOrders_282 : decode cX10_whyNotOrders 282 = .ok (.istore 4, 2) := by decide +kernel
theorem dX10_whyNotOrders_284 : decode cX10_whyNotOrders 284 = .ok (.iload 4, 2) := by decide +kernel
theorem dX10_whyNotOrders_286 : decode cX10_whyNotOrders 286 = .ok (.bipush 13, 2) := by decide +kernel
theorem dX10_whyNotOrders_288 : decode cX10_whyNotOrders 288 = .ok (.if_icmp .ge 17, 3) := by decide +kernel
theorem dX10_whyNotOrders_291 : decode cX10_whyNotOrders 291 = .ok (.aload_n 0, 1) := by decide +kernel
theorem dX10_whyNotOrders_292 : decode cX10_whyNotOrders 292 = .ok (.getfield 101, 3) := by decide +kernel
theorem dX10_whyNotOrders_295 : decode cX10_whyNotOrders 295 = .ok (.iload 4, 2) := by decide +kernel
theorem dX10_whyNotOrders_297 : decode cX10_whyNotOrders 297 = .ok (.iconst (-1), 1) := by decide +kernel
theorem dX10_whyNotOrders_298 : decode cX10_whyNotOrders 298 = .ok (.iastore, 1) := by decide +kernel
theorem dX10_whyNotOrders_299 : decode cX10_whyNotOrders 299 = .ok (.iinc 4 1, 3) := by decide +kernel
theorem dX10_whyNotOrders_302 : decode cX10_whyNotOrders 302 = .ok (.goto (-18), 3) := by decide +kernel
theorem dX10_whyNotOrders_305 : decode cX10_whyNotOrders 305 = .ok (.aload_n 0, 1) := by decide +kernel
theorem dX10_whyNotOrders_306 : decode cX10_whyNotOrders 306 = .ok (.iload_n 1, 1) := by decide +kernel
theorem dX10_whyNotOrders_307 : decode cX10_whyNotOrders 307 = .ok (.iload_n 2, 1) := by decide +kernel
theorem dX10_whyNotOrders_308 : decode cX10_whyNotOrders 308 = .ok (.iload_n 3, 1) := by decide +kernel
theorem dX10_whyNotOrders_309 : decode cX10_whyNotOrders 309 = .ok (.iconst 0, 1) := by decide +kernel
theorem dX10_whyNotOrders_310 : decode cX10_whyNotOrders 310 = .ok (.iconst 0, 1) := by decide +kernel
theorem dX10_whyNotOrders_311 : decode cX10_whyNotOrders 311 = .ok (.invokevirtual 437, 3) := by decide +kernel
theorem dX10_whyNotOrders_314 : decode cX10_whyNotOrders 314 = .ok (.iconst 0, 1) := by decide +kernel
theorem dX10_whyNotOrders_315 : decode cX10_whyNotOrders 315 = .ok (.ireturn, 1) := by decide +kernel
theorem dX10_orders_0 : decode cX10_orders 0 = .ok (.aload_n 0, 1) := by decide +kernel
theorem dX10_orders_1 : decode cX10_orders 1 = .ok (.iconst 0, 1) := by decide +kernel
theorem dX10_orders_2 : decode cX10_orders 2 = .ok (.putfield 104, 3) := by decide +kernel
theorem dX10_orders_5 : decode cX10_orders 5 = .ok (.aload_n 0, 1) := by decide +kernel
theorem dX10_orders_6 : decode cX10_orders 6 = .ok (.iload_n 1, 1) := by decide +kernel
theorem dX10_orders_7 : decode cX10_orders 7 = .ok (.iload_n 2, 1) := by decide +kernel
theorem dX10_orders_8 : decode cX10_orders 8 = .ok (.iload_n 3, 1) := by decide +kernel
theorem dX10_orders_9 : decode cX10_orders 9 = .ok (.invokevirtual 444, 3) := by decide +kernel
theorem dX10_orders_12 : decode cX10_orders 12 = .ok (.istore 4, 2) := by decide +kernel
theorem dX10_orders_14 : decode cX10_orders 14 = .ok (.iload 4, 2) := by decide +kernel
theorem dX10_orders_16 : decode cX10_orders 16 = .ok (.ifCond .eq 8, 3) := by decide +kernel
theorem dX10_orders_19 : decode cX10_orders 19 = .ok (.iload 4, 2) := by decide +kernel
theorem dX10_orders_21 : decode cX10_orders 21 = .ok (.goto 7, 3) := by decide +kernel
theorem dX10_orders_24 : decode cX10_orders 24 = .ok (.aload_n 0, 1) := by decide +kernel
theorem dX10_orders_25 : decode cX10_orders 25 = .ok (.getfield 434, 3) := by decide +kernel
theorem dX10_orders_28 : decode cX10_orders 28 = .ok (.ireturn, 1) := by decide +kernel
theorem dX10_order_0 : decode cX10_order 0 = .ok (.aload_n 0, 1) := by decide +kernel
theorem dX10_order_1 : decode cX10_order 1 = .ok (.iconst 0, 1) := by decide +kernel
theorem dX10_order_2 : decode cX10_order 2 = .ok (.putfield 104, 3) := by decide +kernel
theorem dX10_order_5 : decode cX10_order 5 = .ok (.aload_n 0, 1) := by decide +kernel
theorem dX10_order_6 : decode cX10_order 6 = .ok (.iload_n 1, 1) := by decide +kernel
theorem dX10_order_7 : decode cX10_order 7 = .ok (.iload_n 2, 1) := by decide +kernel
theorem dX10_order_8 : decode cX10_order 8 = .ok (.iload_n 3, 1) := by decide +kernel
theorem dX10_order_9 : decode cX10_order 9 = .ok (.invokevirtual 444, 3) := by decide +kernel
theorem dX10_order_12 : decode cX10_order 12 = .ok (.istore 5, 2) := by decide +kernel
theorem dX10_order_14 : decode cX10_order 14 = .ok (.iload 5, 2) := by decide +kernel
theorem dX10_order_16 : decode cX10_order 16 = .ok (.ifCond .eq 8, 3) := by decide +kernel
theorem dX10_order_19 : decode cX10_order 19 = .ok (.iload 5, 2) := by decide +kernel
theorem dX10_order_21 : decode cX10_order 21 = .ok (.goto 38, 3) := by decide +kernel
theorem dX10_order_24 : decode cX10_order 24 = .ok (.aload_n 0, 1) := by decide +kernel
theorem dX10_order_25 : decode cX10_order 25 = .ok (.getfield 434, 3) := by decide +kernel
theorem dX10_order_28 : decode cX10_order 28 = .ok (.ifCond .le 30, 3) := by decide +kernel
theorem dX10_order_31 : decode cX10_order 31 = .ok (.iload 4, 2) := by decide +kernel
theorem dX10_order_33 : decode cX10_order 33 = .ok (.i2l, 1) := by decide +kernel
theorem dX10_order_34 : decode cX10_order 34 = .ok (.lconst 0, 1) := by decide +kernel
theorem dX10_order_35 : decode cX10_order 35 = .ok (.aload_n 0, 1) := by decide +kernel
theorem dX10_order_36 : decode cX10_order 36 = .ok (.getfield 425, 3) := by decide +kernel
theorem dX10_order_39 : decode cX10_order 39 = .ok (.iconst 1, 1) := by decide +kernel
theorem dX10_order_40 : decode cX10_order 40 = .ok (.isub, 1) := by decide +kernel
theorem dX10_order_41 : decode cX10_order 41 = .ok (.i2l, 1) := by decide +kernel
theorem dX10_order_42 : decode cX10_order 42 = .ok (.invokestatic 109, 3) := by decide +kernel
theorem dX10_order_45 : decode cX10_order 45 = .ok (.ifCond .eq 13, 3) := by decide +kernel
theorem dX10_order_48 : decode cX10_order 48 = .ok (.aload_n 0, 1) := by decide +kernel
theorem dX10_order_49 : decode cX10_order 49 = .ok (.getfield 98, 3) := by decide +kernel
theorem dX10_order_52 : decode cX10_order 52 = .ok (.iload 4, 2) := by decide +kernel
theorem dX10_order_54 : decode cX10_order 54 = .ok (.iaload, 1) := by decide +kernel
theorem dX10_order_55 : decode cX10_order 55 = .ok (.goto 4, 3) := by decide +kernel
theorem dX10_order_58 : decode cX10_order 58 = .ok (.iconst (-1), 1) := by decide +kernel
theorem dX10_order_59 : decode cX10_order 59 = .ok (.ireturn, 1) := by decide +kernel
theorem dX10_sure_0 : decode cX10_sure 0 = .ok (.aload_n 0, 1) := by decide +kernel
theorem dX10_sure_1 : decode cX10_sure 1 = .ok (.iconst 0, 1) := by decide +kernel
theorem dX10_sure_2 : decode cX10_sure 2 = .ok (.putfield 104, 3) := by decide +kernel
theorem dX10_sure_5 : decode cX10_sure 5 = .ok (.aload_n 0, 1) := by decide +kernel
theorem dX10_sure_6 : decode cX10_sure 6 = .ok (.iload 4, 2) := by decide +kernel
theorem dX10_sure_8 : decode cX10_sure 8 = .ok (.invokevirtual 288, 3) := by decide +kernel
theorem dX10_sure_11 : decode cX10_sure 11 = .ok (.ifCond .ne 6, 3) := by decide +kernel
theorem dX10_sure_14 : decode cX10_sure 14 = .ok (.bipush (-2), 2) := by decide +kernel
theorem dX10_sure_16 : decode cX10_sure 16 = .ok (.ireturn, 1) := by decide +kernel
theorem dX10_sure_17 : decode cX10_sure 17 = .ok (.aload_n 0, 1) := by decide +kernel
theorem dX10_sure_18 : decode cX10_sure 18 = .ok (.iload_n 1, 1) := by decide +kernel
theorem dX10_sure_19 : decode cX10_sure 19 = .ok (.iload_n 2, 1) := by decide +kernel
theorem dX10_sure_20 : decode cX10_sure 20 = .ok (.iload_n 3, 1) := by decide +kernel
theorem dX10_sure_21 : decode cX10_sure 21 = .ok (.invokevirtual 444, 3) := by decide +kernel
theorem dX10_sure_24 : decode cX10_sure 24 = .ok (.istore 5, 2) := by decide +kernel
theorem dX10_sure_26 : decode cX10_sure 26 = .ok (.iload 5, 2) := by decide +kernel
theorem dX10_sure_28 : decode cX10_sure 28 = .ok (.ifCond .eq 8, 3) := by decide +kernel
theorem dX10_sure_31 : decode cX10_sure 31 = .ok (.iload 5, 2) := by decide +kernel
theorem dX10_sure_33 : decode cX10_sure 33 = .ok (.goto 26, 3) := by decide +kernel
theorem dX10_sure_36 : decode cX10_sure 36 = .ok (.aload_n 0, 1) := by decide +kernel
theorem dX10_sure_37 : decode cX10_sure 37 = .ok (.getfield 101, 3) := by decide +kernel
theorem dX10_sure_40 : decode cX10_sure 40 = .ok (.iload 4, 2) := by decide +kernel
theorem dX10_sure_42 : decode cX10_sure 42 = .ok (.iaload, 1) := by decide +kernel
theorem dX10_sure_43 : decode cX10_sure 43 = .ok (.bipush 99, 2) := by decide +kernel
theorem dX10_sure_45 : decode cX10_sure 45 = .ok (.if_icmp .ne 7, 3) := by decide +kernel
theorem dX10_sure_48 : decode cX10_sure 48 = .ok (.iconst (-1), 1) := by decide +kernel
theorem dX10_sure_49 : decode cX10_sure 49 = .ok (.goto 10, 3) := by decide +kernel
theorem dX10_sure_52 : decode cX10_sure 52 = .ok (.aload_n 0, 1) := by decide +kernel
theorem dX10_sure_53 : decode cX10_sure 53 = .ok (.getfield 101, 3) := by decide +kernel
theorem dX10_sure_56 : decode cX10_sure 56 = .ok (.iload 4, 2) := by decide +kernel
theorem dX10_sure_58 : decode cX10_sure 58 = .ok (.iaload, 1) := by decide +kernel
theorem dX10_sure_59 : decode cX10_sure 59 = .ok (.ireturn, 1) := by decide +kernel
theorem dX10_whyNotCounts_0 : decode cX10_whyNotCounts 0 = .ok (.iload_n 1, 1) := by decide +kernel
theorem dX10_whyNotCounts_1 : decode cX10_whyNotCounts 1 = .ok (.invokestatic 113, 3) := by decide +kernel
theorem dX10_whyNotCounts_4 : decode cX10_whyNotCounts 4 = .ok (.ifCond .eq 11, 3) := by decide +kernel
theorem dX10_whyNotCounts_7 : decode cX10_whyNotCounts 7 = .ok (.aload_n 0, 1) := by decide +kernel
theorem dX10_whyNotCounts_8 : decode cX10_whyNotCounts 8 = .ok (.iload_n 2, 1) := by decide +kernel
theorem dX10_whyNotCounts_9 : decode cX10_whyNotCounts 9 = .ok (.invokevirtual 381, 3) := by decide +kernel
theorem dX10_whyNotCounts_12 : decode cX10_whyNotCounts 12 = .ok (.ifCond .ne 6, 3) := by decide +kernel
theorem dX10_whyNotCounts_15 : decode cX10_whyNotCounts 15 = .ok (.bipush (-2), 2) := by decide +kernel
theorem dX10_whyNotCounts_17 : decode cX10_whyNotCounts 17 = .ok (.ireturn, 1) := by decide +kernel
theorem dX10_whyNotCounts_18 : decode cX10_whyNotCounts 18 = .ok (.aload_n 0, 1) := by decide +kernel
theorem dX10_whyNotCounts_19 : decode cX10_whyNotCounts 19 = .ok (.getfield 7, 3) := by decide +kernel
theorem dX10_whyNotCounts_22 : decode cX10_whyNotCounts 22 = .ok (.iload_n 1, 1) := by decide +kernel
theorem dX10_whyNotCounts_23 : decode cX10_whyNotCounts 23 = .ok (.iaload, 1) := by decide +kernel
theorem dX10_whyNotCounts_24 : decode cX10_whyNotCounts 24 = .ok (.iconst (-1), 1) := by decide +kernel
theorem dX10_whyNotCounts_25 : decode cX10_whyNotCounts 25 = .ok (.if_icmp .ne 6, 3) := by decide +kernel
theorem dX10_whyNotCounts_28 : decode cX10_whyNotCounts 28 = .ok (.bipush (-6), 2) := by decide +kernel
theorem dX10_whyNotCounts_30 : decode cX10_whyNotCounts 30 = .ok (.ireturn, 1) := by decide +kernel
theorem dX10_whyNotCounts_31 : decode cX10_whyNotCounts 31 = .ok (.aload_n 0, 1) := by decide +kernel
theorem dX10_whyNotCounts_32 : decode cX10_whyNotCounts 32 = .ok (.getfield 13, 3) := by decide +kernel
theorem dX10_whyNotCounts_35 : decode cX10_whyNotCounts 35 = .ok (.iload_n 1, 1) := by decide +kernel
theorem dX10_whyNotCounts_36 : decode cX10_whyNotCounts 36 = .ok (.iaload, 1) := by decide +kernel
theorem dX10_whyNotCounts_37 : decode cX10_whyNotCounts 37 = .ok (.aload_n 0, 1) := by decide +kernel
theorem dX10_whyNotCounts_38 : decode cX10_whyNotCounts 38 = .ok (.getfield 34, 3) := by decide +kernel
theorem dX10_whyNotCounts_41 : decode cX10_whyNotCounts 41 = .ok (.iconst 0, 1) := by decide +kernel
theorem dX10_whyNotCounts_42 : decode cX10_whyNotCounts 42 = .ok (.iaload, 1) := by decide +kernel
theorem dX10_whyNotCounts_43 : decode cX10_whyNotCounts 43 = .ok (.if_icmp .eq 6, 3) := by decide +kernel
theorem dX10_whyNotCounts_46 : decode cX10_whyNotCounts 46 = .ok (.bipush (-7), 2) := by decide +kernel
theorem dX10_whyNotCounts_48 : decode cX10_whyNotCounts 48 = .ok (.ireturn, 1) := by decide +kernel
theorem dX10_whyNotCounts_49 : decode cX10_whyNotCounts 49 = .ok (.iconst 0, 1) := by decide +kernel
theorem dX10_whyNotCounts_50 : decode cX10_whyNotCounts 50 = .ok (.istore_n 3, 1) := by decide +kernel
theorem dX10_whyNotCounts_51 : decode cX10_whyNotCounts 51 = .ok (.iload_n 3, 1) := by decide +kernel
theorem dX10_whyNotCounts_52 : decode cX10_whyNotCounts 52 = .ok (.aload_n 0, 1) := by decide +kernel
theorem dX10_whyNotCounts_53 : decode cX10_whyNotCounts 53 = .ok (.getfield 34, 3) := by decide +kernel
theorem dX10_whyNotCounts_56 : decode cX10_whyNotCounts 56 = .ok (.iconst 0, 1) := by decide +kernel
theorem dX10_whyNotCounts_57 : decode cX10_whyNotCounts 57 = .ok (.iaload, 1) := by decide +kernel
theorem dX10_whyNotCounts_58 : decode cX10_whyNotCounts 58 = .ok (.if_icmp .ge 33, 3) := by decide +kernel
theorem dX10_whyNotCounts_61 : decode cX10_whyNotCounts 61 = .ok (.aload_n 0, 1) := by decide +kernel
theorem dX10_whyNotCounts_62 : decode cX10_whyNotCounts 62 = .ok (.getfield 16, 3) := by decide +kernel
theorem dX10_whyNotCounts_65 : decode cX10_whyNotCounts 65 = .ok (.bipush 60, 2) := by decide +kernel
theorem dX10_whyNotCounts_67 : decode cX10_whyNotCounts 67 = .ok (.iload_n 1, 1) := by decide +kernel
theorem dX10_whyNotCounts_68 : decode cX10_whyNotCounts 68 = .ok (.imul, 1) := by decide +kernel
theorem dX10_whyNotCounts_69 : decode cX10_whyNotCounts 69 = .ok (.iload_n 3, 1) := by decide +kernel
theorem dX10_whyNotCounts_70 : decode cX10_whyNotCounts 70 = .ok (.iadd, 1) := by decide +kernel
theorem dX10_whyNotCounts_71 : decode cX10_whyNotCounts 71 = .ok (.laload, 1) := by decide +kernel
theorem dX10_whyNotCounts_72 : decode cX10_whyNotCounts 72 = .ok (.lconst 0, 1) := by decide +kernel
theorem dX10_whyNotCounts_73 : decode cX10_whyNotCounts 73 = .ok (.ldc2_w 448, 3) := by decide +kernel
theorem dX10_whyNotCounts_76 : decode cX10_whyNotCounts 76 = .ok (.invokestatic 109, 3) := by decide +kernel
theorem dX10_whyNotCounts_79 : decode cX10_whyNotCounts 79 = .ok (.ifCond .ne 6, 3) := by decide +kernel
theorem dX10_whyNotCounts_82 : decode cX10_whyNotCounts 82 = .ok (.bipush (-2), 2) := by decide +kernel
theorem dX10_whyNotCounts_84 : decode cX10_whyNotCounts 84 = .ok (.ireturn, 1) := by decide +kernel
theorem dX10_whyNotCounts_85 : decode cX10_whyNotCounts 85 = .ok (.iinc 3 1, 3) := by decide +kernel
theorem dX10_whyNotCounts_88 : decode cX10_whyNotCounts 88 = .ok (.goto (-37), 3) := by decide +kernel
theorem dX10_whyNotCounts_91 : decode cX10_whyNotCounts 91 = .ok (.iconst 0, 1) := by decide +kernel
theorem dX10_whyNotCounts_92 : decode cX10_whyNotCounts 92 = .ok (.ireturn, 1) := by decide +kernel
theorem dX10_wrong_0 : decode cX10_wrong 0 = .ok (.aload_n 0, 1) := by decide +kernel
theorem dX10_wrong_1 : decode cX10_wrong 1 = .ok (.iconst 0, 1) := by decide +kernel
theorem dX10_wrong_2 : decode cX10_wrong 2 = .ok (.putfield 104, 3) := by decide +kernel
theorem dX10_wrong_5 : decode cX10_wrong 5 = .ok (.aload_n 0, 1) := by decide +kernel
theorem dX10_wrong_6 : decode cX10_wrong 6 = .ok (.iload_n 1, 1) := by decide +kernel
theorem dX10_wrong_7 : decode cX10_wrong 7 = .ok (.iload_n 2, 1) := by decide +kernel
theorem dX10_wrong_8 : decode cX10_wrong 8 = .ok (.invokevirtual 450, 3) := by decide +kernel
theorem dX10_wrong_11 : decode cX10_wrong 11 = .ok (.istore_n 3, 1) := by decide +kernel
theorem dX10_wrong_12 : decode cX10_wrong 12 = .ok (.iload_n 3, 1) := by decide +kernel
theorem dX10_wrong_13 : decode cX10_wrong 13 = .ok (.ifCond .eq 5, 3) := by decide +kernel
theorem dX10_wrong_16 : decode cX10_wrong 16 = .ok (.iload_n 3, 1) := by decide +kernel
theorem dX10_wrong_17 : decode cX10_wrong 17 = .ok (.ireturn, 1) := by decide +kernel
theorem dX10_wrong_18 : decode cX10_wrong 18 = .ok (.aload_n 0, 1) := by decide +kernel
theorem dX10_wrong_19 : decode cX10_wrong 19 = .ok (.invokevirtual 384, 3) := by decide +kernel
theorem dX10_wrong_22 : decode cX10_wrong 22 = .ok (.iconst 0, 1) := by decide +kernel
theorem dX10_wrong_23 : decode cX10_wrong 23 = .ok (.istore 4, 2) := by decide +kernel
theorem dX10_wrong_25 : decode cX10_wrong 25 = .ok (.iconst 0, 1) := by decide +kernel
theorem dX10_wrong_26 : decode cX10_wrong 26 = .ok (.istore 5, 2) := by decide +kernel
theorem dX10_wrong_28 : decode cX10_wrong 28 = .ok (.iload 5, 2) := by decide +kernel
theorem dX10_wrong_30 : decode cX10_wrong 30 = .ok (.aload_n 0, 1) := by decide +kernel
theorem dX10_wrong_31 : decode cX10_wrong 31 = .ok (.getfield 34, 3) := by decide +kernel
theorem dX10_wrong_34 : decode cX10_wrong 34 = .ok (.iconst 0, 1) := by decide +kernel
theorem dX10_wrong_35 : decode cX10_wrong 35 = .ok (.iaload, 1) := by decide +kernel
theorem dX10_wrong_36 : decode cX10_wrong 36 = .ok (.if_icmp .ge 48, 3) := by decide +kernel
theorem dX10_wrong_39 : decode cX10_wrong 39 = .ok (.iload 4, 2) := by decide +kernel
theorem dX10_wrong_41 : decode cX10_wrong 41 = .ok (.aload_n 0, 1) := by decide +kernel
theorem dX10_wrong_42 : decode cX10_wrong 42 = .ok (.getfield 16, 3) := by decide +kernel
theorem dX10_wrong_45 : decode cX10_wrong 45 = .ok (.bipush 60, 2) := by decide +kernel
theorem dX10_wrong_47 : decode cX10_wrong 47 = .ok (.iload_n 1, 1) := by decide +kernel
theorem dX10_wrong_48 : decode cX10_wrong 48 = .ok (.imul, 1) := by decide +kernel
theorem dX10_wrong_49 : decode cX10_wrong 49 = .ok (.iload 5, 2) := by decide +kernel
theorem dX10_wrong_51 : decode cX10_wrong 51 = .ok (.iadd, 1) := by decide +kernel
theorem dX10_wrong_52 : decode cX10_wrong 52 = .ok (.laload, 1) := by decide +kernel
theorem dX10_wrong_53 : decode cX10_wrong 53 = .ok (.aload_n 0, 1) := by decide +kernel
theorem dX10_wrong_54 : decode cX10_wrong 54 = .ok (.getfield 65, 3) := by decide +kernel
theorem dX10_wrong_57 : decode cX10_wrong 57 = .ok (.bipush 9, 2) := by decide +kernel
theorem dX10_wrong_59 : decode cX10_wrong 59 = .ok (.iload 5, 2) := by decide +kernel
theorem dX10_wrong_61 : decode cX10_wrong 61 = .ok (.imul, 1) := by decide +kernel
theorem dX10_wrong_62 : decode cX10_wrong 62 = .ok (.iload_n 2, 1) := by decide +kernel
theorem dX10_wrong_63 : decode cX10_wrong 63 = .ok (.iadd, 1) := by decide +kernel
theorem dX10_wrong_64 : decode cX10_wrong 64 = .ok (.iaload, 1) := by decide +kernel
theorem dX10_wrong_65 : decode cX10_wrong 65 = .ok (.i2l, 1) := by decide +kernel
theorem dX10_wrong_66 : decode cX10_wrong 66 = .ok (.lcmp, 1) := by decide +kernel
theorem dX10_wrong_67 : decode cX10_wrong 67 = .ok (.ifCond .ne 7, 3) := by decide +kernel
theorem dX10_wrong_70 : decode cX10_wrong 70 = .ok (.iconst 0, 1) := by decide +kernel
theorem dX10_wrong_71 : decode cX10_wrong 71 = .ok (.goto 4, 3) := by decide +kernel
theorem dX10_wrong_74 : decode cX10_wrong 74 = .ok (.iconst 1, 1) := by decide +kernel
theorem dX10_wrong_75 : decode cX10_wrong 75 = .ok (.iadd, 1) := by decide +kernel
theorem dX10_wrong_76 : decode cX10_wrong 76 = .ok (.istore 4, 2) := by decide +kernel
theorem dX10_wrong_78 : decode cX10_wrong 78 = .ok (.iinc 5 1, 3) := by decide +kernel
theorem dX10_wrong_81 : decode cX10_wrong 81 = .ok (.goto (-53), 3) := by decide +kernel
theorem dX10_wrong_84 : decode cX10_wrong 84 = .ok (.iload 4, 2) := by decide +kernel
theorem dX10_wrong_86 : decode cX10_wrong 86 = .ok (.ireturn, 1) := by decide +kernel
theorem dX10_anew_0 : decode cX10_anew 0 = .ok (.aload_n 0, 1) := by decide +kernel
theorem dX10_anew_1 : decode cX10_anew 1 = .ok (.iconst 0, 1) := by decide +kernel
theorem dX10_anew_2 : decode cX10_anew 2 = .ok (.putfield 104, 3) := by decide +kernel
theorem dX10_anew_5 : decode cX10_anew 5 = .ok (.aload_n 0, 1) := by decide +kernel
theorem dX10_anew_6 : decode cX10_anew 6 = .ok (.iload_n 1, 1) := by decide +kernel
theorem dX10_anew_7 : decode cX10_anew 7 = .ok (.iload_n 2, 1) := by decide +kernel
theorem dX10_anew_8 : decode cX10_anew 8 = .ok (.invokevirtual 450, 3) := by decide +kernel
theorem dX10_anew_11 : decode cX10_anew 11 = .ok (.istore_n 3, 1) := by decide +kernel
theorem dX10_anew_12 : decode cX10_anew 12 = .ok (.iload_n 3, 1) := by decide +kernel
theorem dX10_anew_13 : decode cX10_anew 13 = .ok (.ifCond .eq 5, 3) := by decide +kernel
theorem dX10_anew_16 : decode cX10_anew 16 = .ok (.iload_n 3, 1) := by decide +kernel
theorem dX10_anew_17 : decode cX10_anew 17 = .ok (.ireturn, 1) := by decide +kernel
theorem dX10_anew_18 : decode cX10_anew 18 = .ok (.aload_n 0, 1) := by decide +kernel
theorem dX10_anew_19 : decode cX10_anew 19 = .ok (.invokevirtual 384, 3) := by decide +kernel
theorem dX10_anew_22 : decode cX10_anew 22 = .ok (.lconst 0, 1) := by decide +kernel
theorem dX10_anew_23 : decode cX10_anew 23 = .ok (.lstore 4, 2) := by decide +kernel
theorem dX10_anew_25 : decode cX10_anew 25 = .ok (.iconst 0, 1) := by decide +kernel
theorem dX10_anew_26 : decode cX10_anew 26 = .ok (.istore 6, 2) := by decide +kernel
theorem dX10_anew_28 : decode cX10_anew 28 = .ok (.iload 6, 2) := by decide +kernel
theorem dX10_anew_30 : decode cX10_anew 30 = .ok (.aload_n 0, 1) := by decide +kernel
theorem dX10_anew_31 : decode cX10_anew 31 = .ok (.getfield 34, 3) := by decide +kernel
theorem dX10_anew_34 : decode cX10_anew 34 = .ok (.iconst 0, 1) := by decide +kernel
theorem dX10_anew_35 : decode cX10_anew 35 = .ok (.iaload, 1) := by decide +kernel
theorem dX10_anew_36 : decode cX10_anew 36 = .ok (.if_icmp .ge 40, 3) := by decide +kernel
theorem dX10_anew_39 : decode cX10_anew 39 = .ok (.lload 4, 2) := by decide +kernel
theorem dX10_anew_41 : decode cX10_anew 41 = .ok (.aload_n 0, 1) := by decide +kernel
theorem dX10_anew_42 : decode cX10_anew 42 = .ok (.getfield 16, 3) := by decide +kernel
theorem dX10_anew_45 : decode cX10_anew 45 = .ok (.bipush 60, 2) := by decide +kernel
theorem dX10_anew_47 : decode cX10_anew 47 = .ok (.iload_n 1, 1) := by decide +kernel
theorem dX10_anew_48 : decode cX10_anew 48 = .ok (.imul, 1) := by decide +kernel
theorem dX10_anew_49 : decode cX10_anew 49 = .ok (.iload 6, 2) := by decide +kernel
theorem dX10_anew_51 : decode cX10_anew 51 = .ok (.iadd, 1) := by decide +kernel
theorem dX10_anew_52 : decode cX10_anew 52 = .ok (.laload, 1) := by decide +kernel
theorem dX10_anew_53 : decode cX10_anew 53 = .ok (.aload_n 0, 1) := by decide +kernel
theorem dX10_anew_54 : decode cX10_anew 54 = .ok (.getfield 65, 3) := by decide +kernel
theorem dX10_anew_57 : decode cX10_anew 57 = .ok (.bipush 9, 2) := by decide +kernel
theorem dX10_anew_59 : decode cX10_anew 59 = .ok (.iload 6, 2) := by decide +kernel
theorem dX10_anew_61 : decode cX10_anew 61 = .ok (.imul, 1) := by decide +kernel
theorem dX10_anew_62 : decode cX10_anew 62 = .ok (.iload_n 2, 1) := by decide +kernel
theorem dX10_anew_63 : decode cX10_anew 63 = .ok (.iadd, 1) := by decide +kernel
theorem dX10_anew_64 : decode cX10_anew 64 = .ok (.iaload, 1) := by decide +kernel
theorem dX10_anew_65 : decode cX10_anew 65 = .ok (.i2l, 1) := by decide +kernel
theorem dX10_anew_66 : decode cX10_anew 66 = .ok (.lsub, 1) := by decide +kernel
theorem dX10_anew_67 : decode cX10_anew 67 = .ok (.ladd, 1) := by decide +kernel
theorem dX10_anew_68 : decode cX10_anew 68 = .ok (.lstore 4, 2) := by decide +kernel
theorem dX10_anew_70 : decode cX10_anew 70 = .ok (.iinc 6 1, 3) := by decide +kernel
theorem dX10_anew_73 : decode cX10_anew 73 = .ok (.goto (-45), 3) := by decide +kernel
theorem dX10_anew_76 : decode cX10_anew 76 = .ok (.lload 4, 2) := by decide +kernel
theorem dX10_anew_78 : decode cX10_anew 78 = .ok (.lconst 0, 1) := by decide +kernel
theorem dX10_anew_79 : decode cX10_anew 79 = .ok (.lcmp, 1) := by decide +kernel
theorem dX10_anew_80 : decode cX10_anew 80 = .ok (.ifCond .ne 7, 3) := by decide +kernel
theorem dX10_anew_83 : decode cX10_anew 83 = .ok (.iconst 0, 1) := by decide +kernel
theorem dX10_anew_84 : decode cX10_anew 84 = .ok (.goto 7, 3) := by decide +kernel
theorem dX10_anew_87 : decode cX10_anew 87 = .ok (.aload_n 0, 1) := by decide +kernel
theorem dX10_anew_88 : decode cX10_anew 88 = .ok (.invokevirtual 453, 3) := by decide +kernel
theorem dX10_anew_91 : decode cX10_anew 91 = .ok (.ireturn, 1) := by decide +kernel
theorem dX10_isSeed_0 : decode cX10_isSeed 0 = .ok (.iload_n 0, 1) := by decide +kernel
theorem dX10_isSeed_1 : decode cX10_isSeed 1 = .ok (.i2l, 1) := by decide +kernel
theorem dX10_isSeed_2 : decode cX10_isSeed 2 = .ok (.lconst 0, 1) := by decide +kernel
theorem dX10_isSeed_3 : decode cX10_isSeed 3 = .ok (.ldc2_w 456, 3) := by decide +kernel
theorem dX10_isSeed_6 : decode cX10_isSeed 6 = .ok (.invokestatic 109, 3) := by decide +kernel
theorem dX10_isSeed_9 : decode cX10_isSeed 9 = .ok (.ireturn, 1) := by decide +kernel
theorem dX10_mixed_0 : decode cX10_mixed 0 = .ok (.aload_n 0, 1) := by decide +kernel
theorem dX10_mixed_1 : decode cX10_mixed 1 = .ok (.iconst 0, 1) := by decide +kernel
theorem dX10_mixed_2 : decode cX10_mixed 2 = .ok (.putfield 104, 3) := by decide +kernel
theorem dX10_mixed_5 : decode cX10_mixed 5 = .ok (.iload_n 1, 1) := by decide +kernel
theorem dX10_mixed_6 : decode cX10_mixed 6 = .ok (.invokestatic 458, 3) := by decide +kernel
theorem dX10_mixed_9 : decode cX10_mixed 9 = .ok (.ifCond .eq 22, 3) := by decide +kernel
theorem dX10_mixed_12 : decode cX10_mixed 12 = .ok (.aload_n 0, 1) := by decide +kernel
theorem dX10_mixed_13 : decode cX10_mixed 13 = .ok (.iload_n 2, 1) := by decide +kernel
theorem dX10_mixed_14 : decode cX10_mixed 14 = .ok (.i2l, 1) := by decide +kernel
theorem dX10_mixed_15 : decode cX10_mixed 15 = .ok (.invokevirtual 389, 3) := by decide +kernel
theorem dX10_mixed_18 : decode cX10_mixed 18 = .ok (.ifCond .eq 13, 3) := by decide +kernel
theorem dX10_mixed_21 : decode cX10_mixed 21 = .ok (.aload_n 0, 1) := by decide +kernel
theorem dX10_mixed_22 : decode cX10_mixed 22 = .ok (.iload_n 1, 1) := by decide +kernel
theorem dX10_mixed_23 : decode cX10_mixed 23 = .ok (.i2l, 1) := by decide +kernel
theorem dX10_mixed_24 : decode cX10_mixed 24 = .ok (.iload_n 2, 1) := by decide +kernel
theorem dX10_mixed_25 : decode cX10_mixed 25 = .ok (.invokevirtual 461, 3) := by decide +kernel
theorem dX10_mixed_28 : decode cX10_mixed 28 = .ok (.goto 5, 3) := by decide +kernel
theorem dX10_mixed_31 : decode cX10_mixed 31 = .ok (.bipush (-2), 2) := by decide +kernel
theorem dX10_mixed_33 : decode cX10_mixed 33 = .ok (.ireturn, 1) := by decide +kernel
theorem dX10_luck_0 : decode cX10_luck 0 = .ok (.aload_n 0, 1) := by decide +kernel
theorem dX10_luck_1 : decode cX10_luck 1 = .ok (.iconst 0, 1) := by decide +kernel
theorem dX10_luck_2 : decode cX10_luck 2 = .ok (.putfield 104, 3) := by decide +kernel
theorem dX10_luck_5 : decode cX10_luck 5 = .ok (.iload_n 1, 1) := by decide +kernel
theorem dX10_luck_6 : decode cX10_luck 6 = .ok (.invokestatic 458, 3) := by decide +kernel
theorem dX10_luck_9 : decode cX10_luck 9 = .ok (.ifCond .eq 24, 3) := by decide +kernel
theorem dX10_luck_12 : decode cX10_luck 12 = .ok (.iload_n 2, 1) := by decide +kernel
theorem dX10_luck_13 : decode cX10_luck 13 = .ok (.i2l, 1) := by decide +kernel
theorem dX10_luck_14 : decode cX10_luck 14 = .ok (.lconst 1, 1) := by decide +kernel
theorem dX10_luck_15 : decode cX10_luck 15 = .ok (.ldc2_w 465, 3) := by decide +kernel
theorem dX10_luck_18 : decode cX10_luck 18 = .ok (.invokestatic 109, 3) := by decide +kernel
theorem dX10_luck_21 : decode cX10_luck 21 = .ok (.ifCond .eq 12, 3) := by decide +kernel
theorem dX10_luck_24 : decode cX10_luck 24 = .ok (.aload_n 0, 1) := by decide +kernel
theorem dX10_luck_25 : decode cX10_luck 25 = .ok (.iload_n 3, 1) := by decide +kernel
theorem dX10_luck_26 : decode cX10_luck 26 = .ok (.i2l, 1) := by decide +kernel
theorem dX10_luck_27 : decode cX10_luck 27 = .ok (.invokevirtual 389, 3) := by decide +kernel
theorem dX10_luck_30 : decode cX10_luck 30 = .ok (.ifCond .ne 6, 3) := by decide +kernel
theorem dX10_luck_33 : decode cX10_luck 33 = .ok (.bipush (-2), 2) := by decide +kernel
theorem dX10_luck_35 : decode cX10_luck 35 = .ok (.ireturn, 1) := by decide +kernel
theorem dX10_luck_36 : decode cX10_luck 36 = .ok (.aload_n 0, 1) := by decide +kernel
theorem dX10_luck_37 : decode cX10_luck 37 = .ok (.invokevirtual 384, 3) := by decide +kernel
theorem dX10_luck_40 : decode cX10_luck 40 = .ok (.aload_n 0, 1) := by decide +kernel
theorem dX10_luck_41 : decode cX10_luck 41 = .ok (.iload_n 3, 1) := by decide +kernel
theorem dX10_luck_42 : decode cX10_luck 42 = .ok (.invokevirtual 378, 3) := by decide +kernel
theorem dX10_luck_45 : decode cX10_luck 45 = .ok (.istore 4, 2) := by decide +kernel
theorem dX10_luck_47 : decode cX10_luck 47 = .ok (.iconst 0, 1) := by decide +kernel
theorem dX10_luck_48 : decode cX10_luck 48 = .ok (.istore 5, 2) := by decide +kernel
theorem dX10_luck_50 : decode cX10_luck 50 = .ok (.iconst 0, 1) := by decide +kernel
theorem dX10_luck_51 : decode cX10_luck 51 = .ok (.istore 6, 2) := by decide +kernel
theorem dX10_luck_53 : decode cX10_luck 53 = .ok (.iload 6, 2) := by decide +kernel
theorem dX10_luck_55 : decode cX10_luck 55 = .ok (.iload_n 2, 1) := by decide +kernel
theorem dX10_luck_56 : decode cX10_luck 56 = .ok (.if_icmp .ge 35, 3) := by decide +kernel
theorem dX10_luck_59 : decode cX10_luck 59 = .ok (.iload 5, 2) := by decide +kernel
theorem dX10_luck_61 : decode cX10_luck 61 = .ok (.aload_n 0, 1) := by decide +kernel
theorem dX10_luck_62 : decode cX10_luck 62 = .ok (.iload_n 1, 1) := by decide +kernel
theorem dX10_luck_63 : decode cX10_luck 63 = .ok (.i2l, 1) := by decide +kernel
theorem dX10_luck_64 : decode cX10_luck 64 = .ok (.iload 6, 2) := by decide +kernel
theorem dX10_luck_66 : decode cX10_luck 66 = .ok (.i2l, 1) := by decide +kernel
theorem dX10_luck_67 : decode cX10_luck 67 = .ok (.ladd, 1) := by decide +kernel
theorem dX10_luck_68 : decode cX10_luck 68 = .ok (.iload_n 3, 1) := by decide +kernel
theorem dX10_luck_69 : decode cX10_luck 69 = .ok (.invokevirtual 461, 3) := by decide +kernel
theorem dX10_luck_72 : decode cX10_luck 72 = .ok (.iload 4, 2) := by decide +kernel
theorem dX10_luck_74 : decode cX10_luck 74 = .ok (.if_icmp .le 7, 3) := by decide +kernel
theorem dX10_luck_77 : decode cX10_luck 77 = .ok (.iconst 1, 1) := by decide +kernel
theorem dX10_luck_78 : decode cX10_luck 78 = .ok (.goto 4, 3) := by decide +kernel
theorem dX10_luck_81 : decode cX10_luck 81 = .ok (.iconst 0, 1) := by decide +kernel
theorem dX10_luck_82 : decode cX10_luck 82 = .ok (.iadd, 1) := by decide +kernel
theorem dX10_luck_83 : decode cX10_luck 83 = .ok (.istore 5, 2) := by decide +kernel
theorem dX10_luck_85 : decode cX10_luck 85 = .ok (.iinc 6 1, 3) := by decide +kernel
theorem dX10_luck_88 : decode cX10_luck 88 = .ok (.goto (-35), 3) := by decide +kernel
theorem dX10_luck_91 : decode cX10_luck 91 = .ok (.iload 5, 2) := by decide +kernel
theorem dX10_luck_93 : decode cX10_luck 93 = .ok (.ireturn, 1) := by decide +kernel
theorem dX10_free_0 : decode cX10_free 0 = .ok (.aload_n 0, 1) := by decide +kernel
theorem dX10_free_1 : decode cX10_free 1 = .ok (.iconst 0, 1) := by decide +kernel
theorem dX10_free_2 : decode cX10_free 2 = .ok (.putfield 104, 3) := by decide +kernel
theorem dX10_free_5 : decode cX10_free 5 = .ok (.aload_n 0, 1) := by decide +kernel
theorem dX10_free_6 : decode cX10_free 6 = .ok (.iload_n 1, 1) := by decide +kernel
theorem dX10_free_7 : decode cX10_free 7 = .ok (.i2l, 1) := by decide +kernel
theorem dX10_free_8 : decode cX10_free 8 = .ok (.invokevirtual 389, 3) := by decide +kernel
theorem dX10_free_11 : decode cX10_free 11 = .ok (.ifCond .ne 6, 3) := by decide +kernel
theorem dX10_free_14 : decode cX10_free 14 = .ok (.bipush (-2), 2) := by decide +kernel
theorem dX10_free_16 : decode cX10_free 16 = .ok (.ireturn, 1) := by decide +kernel
theorem dX10_free_17 : decode cX10_free 17 = .ok (.aload_n 0, 1) := by decide +kernel
theorem dX10_free_18 : decode cX10_free 18 = .ok (.getfield 37, 3) := by decide +kernel
theorem dX10_free_21 : decode cX10_free 21 = .ok (.iconst 3, 1) := by decide +kernel
theorem dX10_free_22 : decode cX10_free 22 = .ok (.iaload, 1) := by decide +kernel
theorem dX10_free_23 : decode cX10_free 23 = .ok (.istore_n 2, 1) := by decide +kernel
theorem dX10_free_24 : decode cX10_free 24 = .ok (.iconst (-1), 1) := by decide +kernel
theorem dX10_free_25 : decode cX10_free 25 = .ok (.istore_n 3, 1) := by decide +kernel
theorem dX10_free_26 : decode cX10_free 26 = .ok (.iconst 2, 1) := by decide +kernel
theorem dX10_free_27 : decode cX10_free 27 = .ok (.istore 4, 2) := by decide +kernel
theorem dX10_free_29 : decode cX10_free 29 = .ok (.iload 4, 2) := by decide +kernel
theorem dX10_free_31 : decode cX10_free 31 = .ok (.bipush 100, 2) := by decide +kernel
theorem dX10_free_33 : decode cX10_free 33 = .ok (.if_icmp .gt 41, 3) := by decide +kernel
theorem dX10_free_36 : decode cX10_free 36 = .ok (.iload_n 3, 1) := by decide +kernel
theorem dX10_free_37 : decode cX10_free 37 = .ok (.iconst (-1), 1) := by decide +kernel
theorem dX10_free_38 : decode cX10_free 38 = .ok (.if_icmp .ne 36, 3) := by decide +kernel
theorem dX10_free_41 : decode cX10_free 41 = .ok (.aload_n 0, 1) := by decide +kernel
theorem dX10_free_42 : decode cX10_free 42 = .ok (.getfield 37, 3) := by decide +kernel
theorem dX10_free_45 : decode cX10_free 45 = .ok (.iconst 3, 1) := by decide +kernel
theorem dX10_free_46 : decode cX10_free 46 = .ok (.iload 4, 2) := by decide +kernel
theorem dX10_free_48 : decode cX10_free 48 = .ok (.iastore, 1) := by decide +kernel
theorem dX10_free_49 : decode cX10_free 49 = .ok (.aload_n 0, 1) := by decide +kernel
theorem dX10_free_50 : decode cX10_free 50 = .ok (.invokevirtual 384, 3) := by decide +kernel
theorem dX10_free_53 : decode cX10_free 53 = .ok (.aload_n 0, 1) := by decide +kernel
theorem dX10_free_54 : decode cX10_free 54 = .ok (.iload_n 1, 1) := by decide +kernel
theorem dX10_free_55 : decode cX10_free 55 = .ok (.invokevirtual 378, 3) := by decide +kernel
theorem dX10_free_58 : decode cX10_free 58 = .ok (.ifCond .ne 8, 3) := by decide +kernel
theorem dX10_free_61 : decode cX10_free 61 = .ok (.iload 4, 2) := by decide +kernel
theorem dX10_free_63 : decode cX10_free 63 = .ok (.goto 4, 3) := by decide +kernel
theorem dX10_free_66 : decode cX10_free 66 = .ok (.iconst (-1), 1) := by decide +kernel
theorem dX10_free_67 : decode cX10_free 67 = .ok (.istore_n 3, 1) := by decide +kernel
theorem dX10_free_68 : decode cX10_free 68 = .ok (.iinc 4 1, 3) := by decide +kernel
theorem dX10_free_71 : decode cX10_free 71 = .ok (.goto (-42), 3) := by decide +kernel
theorem dX10_free_74 : decode cX10_free 74 = .ok (.aload_n 0, 1) := by decide +kernel
theorem dX10_free_75 : decode cX10_free 75 = .ok (.getfield 37, 3) := by decide +kernel
theorem dX10_free_78 : decode cX10_free 78 = .ok (.iconst 3, 1) := by decide +kernel
theorem dX10_free_79 : decode cX10_free 79 = .ok (.iload_n 2, 1) := by decide +kernel
theorem dX10_free_80 : decode cX10_free 80 = .ok (.iastore, 1) := by decide +kernel
theorem dX10_free_81 : decode cX10_free 81 = .ok (.iload_n 3, 1) := by decide +kernel
theorem dX10_free_82 : decode cX10_free 82 = .ok (.ireturn, 1) := by decide +kernel
theorem dX10_all_0 : decode cX10_all 0 = .ok (.aload_n 0, 1) := by decide +kernel
theorem dX10_all_1 : decode cX10_all 1 = .ok (.iconst 0, 1) := by decide +kernel
theorem dX10_all_2 : decode cX10_all 2 = .ok (.putfield 104, 3) := by decide +kernel
theorem dX10_all_5 : decode cX10_all 5 = .ok (.aload_n 0, 1) := by decide +kernel
theorem dX10_all_6 : decode cX10_all 6 = .ok (.invokevirtual 280, 3) := by decide +kernel
theorem dX10_all_9 : decode cX10_all 9 = .ok (.ifCond .eq 15, 3) := by decide +kernel
theorem dX10_all_12 : decode cX10_all 12 = .ok (.iload_n 1, 1) := by decide +kernel
theorem dX10_all_13 : decode cX10_all 13 = .ok (.i2l, 1) := by decide +kernel
theorem dX10_all_14 : decode cX10_all 14 = .ok (.lconst 0, 1) := by decide +kernel
theorem dX10_all_15 : decode cX10_all 15 = .ok (.ldc2_w 107, 3) := by decide +kernel
theorem dX10_all_18 : decode cX10_all 18 = .ok (.invokestatic 109, 3) := by decide +kernel
theorem dX10_all_21 : decode cX10_all 21 = .ok (.ifCond .ne 6, 3) := by decide +kernel

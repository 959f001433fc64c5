theorem dX9_init_83 : decode cX9_init 83 = .ok (.aastore, 1) := by decide +kernel
theorem dX9_init_84 : decode cX9_init 84 = .ok (.iinc 1 1, 3) := by decide +kernel
theorem dX9_init_87 : decode cX9_init 87 = .ok (.goto (-21), 3) := by decide +kernel
theorem dX9_init_90 : decode cX9_init 90 = .ok (.aload_n 0, 1) := by decide +kernel
theorem dX9_init_91 : decode cX9_init 91 = .ok (.iconst 3, 1) := by decide +kernel
theorem dX9_init_92 : decode cX9_init 92 = .ok (.newarray .boolean, 2) := by decide +kernel
theorem dX9_init_94 : decode cX9_init 94 = .ok (.putfield 39, 3) := by decide +kernel
theorem dX9_init_97 : decode cX9_init 97 = .ok (.aload_n 0, 1) := by decide +kernel
theorem dX9_init_98 : decode cX9_init 98 = .ok (.new 43, 3) := by decide +kernel
theorem dX9_init_101 : decode cX9_init 101 = .ok (.dup, 1) := by decide +kernel
theorem dX9_init_102 : decode cX9_init 102 = .ok (.invokespecial 45, 3) := by decide +kernel
theorem dX9_init_105 : decode cX9_init 105 = .ok (.putfield 46, 3) := by decide +kernel
theorem dX9_init_108 : decode cX9_init 108 = .ok (.aload_n 0, 1) := by decide +kernel
theorem dX9_init_109 : decode cX9_init 109 = .ok (.new 50, 3) := by decide +kernel
theorem dX9_init_112 : decode cX9_init 112 = .ok (.dup, 1) := by decide +kernel
theorem dX9_init_113 : decode cX9_init 113 = .ok (.invokespecial 52, 3) := by decide +kernel
theorem dX9_init_116 : decode cX9_init 116 = .ok (.putfield 53, 3) := by decide +kernel
theorem dX9_init_119 : decode cX9_init 119 = .ok (.aload_n 0, 1) := by decide +kernel
theorem dX9_init_120 : decode cX9_init 120 = .ok (.new 57, 3) := by decide +kernel
theorem dX9_init_123 : decode cX9_init 123 = .ok (.dup, 1) := by decide +kernel
theorem dX9_init_124 : decode cX9_init 124 = .ok (.aload_n 0, 1) := by decide +kernel
theorem dX9_init_125 : decode cX9_init 125 = .ok (.getfield 53, 3) := by decide +kernel
theorem dX9_init_128 : decode cX9_init 128 = .ok (.invokespecial 59, 3) := by decide +kernel
theorem dX9_init_131 : decode cX9_init 131 = .ok (.putfield 62, 3) := by decide +kernel
theorem dX9_init_134 : decode cX9_init 134 = .ok (.aload_n 0, 1) := by decide +kernel
theorem dX9_init_135 : decode cX9_init 135 = .ok (.new 66, 3) := by decide +kernel
theorem dX9_init_138 : decode cX9_init 138 = .ok (.dup, 1) := by decide +kernel
theorem dX9_init_139 : decode cX9_init 139 = .ok (.aload_n 0, 1) := by decide +kernel
theorem dX9_init_140 : decode cX9_init 140 = .ok (.getfield 53, 3) := by decide +kernel
theorem dX9_init_143 : decode cX9_init 143 = .ok (.invokespecial 68, 3) := by decide +kernel
theorem dX9_init_146 : decode cX9_init 146 = .ok (.putfield 69, 3) := by decide +kernel
theorem dX9_init_149 : decode cX9_init 149 = .ok (.aload_n 0, 1) := by decide +kernel
theorem dX9_init_150 : decode cX9_init 150 = .ok (.new 73, 3) := by decide +kernel
theorem dX9_init_153 : decode cX9_init 153 = .ok (.dup, 1) := by decide +kernel
theorem dX9_init_154 : decode cX9_init 154 = .ok (.aload_n 0, 1) := by decide +kernel
theorem dX9_init_155 : decode cX9_init 155 = .ok (.getfield 53, 3) := by decide +kernel
theorem dX9_init_158 : decode cX9_init 158 = .ok (.invokespecial 75, 3) := by decide +kernel
theorem dX9_init_161 : decode cX9_init 161 = .ok (.putfield 76, 3) := by decide +kernel
theorem dX9_init_164 : decode cX9_init 164 = .ok (.return_, 1) := by decide +kernel
theorem dX9_feed_0 : decode cX9_feed 0 = .ok (.aload_n 0, 1) := by decide +kernel
theorem dX9_feed_1 : decode cX9_feed 1 = .ok (.getfield 10, 3) := by decide +kernel
theorem dX9_feed_4 : decode cX9_feed 4 = .ok (.getfield 80, 3) := by decide +kernel
theorem dX9_feed_7 : decode cX9_feed 7 = .ok (.sipush 1580, 3) := by decide +kernel
theorem dX9_feed_10 : decode cX9_feed 10 = .ok (.if_icmp .le 5, 3) := by decide +kernel
theorem dX9_feed_13 : decode cX9_feed 13 = .ok (.iconst (-1), 1) := by decide +kernel
theorem dX9_feed_14 : decode cX9_feed 14 = .ok (.ireturn, 1) := by decide +kernel
theorem dX9_feed_15 : decode cX9_feed 15 = .ok (.aload_n 0, 1) := by decide +kernel
theorem dX9_feed_16 : decode cX9_feed 16 = .ok (.getfield 10, 3) := by decide +kernel
theorem dX9_feed_19 : decode cX9_feed 19 = .ok (.iload_n 1, 1) := by decide +kernel
theorem dX9_feed_20 : decode cX9_feed 20 = .ok (.invokevirtual 84, 3) := by decide +kernel
theorem dX9_feed_23 : decode cX9_feed 23 = .ok (.aload_n 0, 1) := by decide +kernel
theorem dX9_feed_24 : decode cX9_feed 24 = .ok (.getfield 10, 3) := by decide +kernel
theorem dX9_feed_27 : decode cX9_feed 27 = .ok (.iload_n 2, 1) := by decide +kernel
theorem dX9_feed_28 : decode cX9_feed 28 = .ok (.invokevirtual 84, 3) := by decide +kernel
theorem dX9_feed_31 : decode cX9_feed 31 = .ok (.aload_n 0, 1) := by decide +kernel
theorem dX9_feed_32 : decode cX9_feed 32 = .ok (.getfield 10, 3) := by decide +kernel
theorem dX9_feed_35 : decode cX9_feed 35 = .ok (.iload_n 3, 1) := by decide +kernel
theorem dX9_feed_36 : decode cX9_feed 36 = .ok (.invokevirtual 84, 3) := by decide +kernel
theorem dX9_feed_39 : decode cX9_feed 39 = .ok (.aload_n 0, 1) := by decide +kernel
theorem dX9_feed_40 : decode cX9_feed 40 = .ok (.getfield 10, 3) := by decide +kernel
theorem dX9_feed_43 : decode cX9_feed 43 = .ok (.iload 4, 2) := by decide +kernel
theorem dX9_feed_45 : decode cX9_feed 45 = .ok (.invokevirtual 84, 3) := by decide +kernel
theorem dX9_feed_48 : decode cX9_feed 48 = .ok (.aload_n 0, 1) := by decide +kernel
theorem dX9_feed_49 : decode cX9_feed 49 = .ok (.getfield 10, 3) := by decide +kernel
theorem dX9_feed_52 : decode cX9_feed 52 = .ok (.iload 5, 2) := by decide +kernel
theorem dX9_feed_54 : decode cX9_feed 54 = .ok (.invokevirtual 84, 3) := by decide +kernel
theorem dX9_feed_57 : decode cX9_feed 57 = .ok (.aload_n 0, 1) := by decide +kernel
theorem dX9_feed_58 : decode cX9_feed 58 = .ok (.getfield 10, 3) := by decide +kernel
theorem dX9_feed_61 : decode cX9_feed 61 = .ok (.getfield 80, 3) := by decide +kernel
theorem dX9_feed_64 : decode cX9_feed 64 = .ok (.ireturn, 1) := by decide +kernel
theorem dX9_end_0 : decode cX9_end 0 = .ok (.iload_n 1, 1) := by decide +kernel
theorem dX9_end_1 : decode cX9_end 1 = .ok (.ifCond .lt 14, 3) := by decide +kernel
theorem dX9_end_4 : decode cX9_end 4 = .ok (.iload_n 1, 1) := by decide +kernel
theorem dX9_end_5 : decode cX9_end 5 = .ok (.aload_n 0, 1) := by decide +kernel
theorem dX9_end_6 : decode cX9_end 6 = .ok (.getfield 10, 3) := by decide +kernel
theorem dX9_end_9 : decode cX9_end 9 = .ok (.getfield 80, 3) := by decide +kernel
theorem dX9_end_12 : decode cX9_end 12 = .ok (.if_icmp .le 5, 3) := by decide +kernel
theorem dX9_end_15 : decode cX9_end 15 = .ok (.iconst (-1), 1) := by decide +kernel
theorem dX9_end_16 : decode cX9_end 16 = .ok (.ireturn, 1) := by decide +kernel
theorem dX9_end_17 : decode cX9_end 17 = .ok (.aload_n 0, 1) := by decide +kernel
theorem dX9_end_18 : decode cX9_end 18 = .ok (.getfield 10, 3) := by decide +kernel
theorem dX9_end_21 : decode cX9_end 21 = .ok (.iload_n 1, 1) := by decide +kernel
theorem dX9_end_22 : decode cX9_end 22 = .ok (.putfield 80, 3) := by decide +kernel
theorem dX9_end_25 : decode cX9_end 25 = .ok (.iload_n 1, 1) := by decide +kernel
theorem dX9_end_26 : decode cX9_end 26 = .ok (.ireturn, 1) := by decide +kernel
theorem dX9_moor_0 : decode cX9_moor 0 = .ok (.aload_n 0, 1) := by decide +kernel
theorem dX9_moor_1 : decode cX9_moor 1 = .ok (.getfield 31, 3) := by decide +kernel
theorem dX9_moor_4 : decode cX9_moor 4 = .ok (.invokevirtual 88, 3) := by decide +kernel
theorem dX9_moor_7 : decode cX9_moor 7 = .ok (.iconst 0, 1) := by decide +kernel
theorem dX9_moor_8 : decode cX9_moor 8 = .ok (.istore_n 1, 1) := by decide +kernel
theorem dX9_moor_9 : decode cX9_moor 9 = .ok (.iload_n 1, 1) := by decide +kernel
theorem dX9_moor_10 : decode cX9_moor 10 = .ok (.sipush 1600, 3) := by decide +kernel
theorem dX9_moor_13 : decode cX9_moor 13 = .ok (.if_icmp .gt 26, 3) := by decide +kernel
theorem dX9_moor_16 : decode cX9_moor 16 = .ok (.aload_n 0, 1) := by decide +kernel
theorem dX9_moor_17 : decode cX9_moor 17 = .ok (.getfield 31, 3) := by decide +kernel
theorem dX9_moor_20 : decode cX9_moor 20 = .ok (.invokevirtual 91, 3) := by decide +kernel
theorem dX9_moor_23 : decode cX9_moor 23 = .ok (.ifCond .eq 16, 3) := by decide +kernel
theorem dX9_moor_26 : decode cX9_moor 26 = .ok (.aload_n 0, 1) := by decide +kernel
theorem dX9_moor_27 : decode cX9_moor 27 = .ok (.getfield 31, 3) := by decide +kernel
theorem dX9_moor_30 : decode cX9_moor 30 = .ok (.invokevirtual 95, 3) := by decide +kernel
theorem dX9_moor_33 : decode cX9_moor 33 = .ok (.iinc 1 1, 3) := by decide +kernel
theorem dX9_moor_36 : decode cX9_moor 36 = .ok (.goto (-27), 3) := by decide +kernel
theorem dX9_moor_39 : decode cX9_moor 39 = .ok (.aload_n 0, 1) := by decide +kernel
theorem dX9_moor_40 : decode cX9_moor 40 = .ok (.getfield 31, 3) := by decide +kernel
theorem dX9_moor_43 : decode cX9_moor 43 = .ok (.getfield 98, 3) := by decide +kernel
theorem dX9_moor_46 : decode cX9_moor 46 = .ok (.ifCond .eq 6, 3) := by decide +kernel
theorem dX9_moor_49 : decode cX9_moor 49 = .ok (.bipush (-4), 2) := by decide +kernel
theorem dX9_moor_51 : decode cX9_moor 51 = .ok (.ireturn, 1) := by decide +kernel
theorem dX9_moor_52 : decode cX9_moor 52 = .ok (.aload_n 0, 1) := by decide +kernel
theorem dX9_moor_53 : decode cX9_moor 53 = .ok (.getfield 10, 3) := by decide +kernel
theorem dX9_moor_56 : decode cX9_moor 56 = .ok (.iconst 0, 1) := by decide +kernel
theorem dX9_moor_57 : decode cX9_moor 57 = .ok (.putfield 80, 3) := by decide +kernel
theorem dX9_moor_60 : decode cX9_moor 60 = .ok (.aload_n 0, 1) := by decide +kernel
theorem dX9_moor_61 : decode cX9_moor 61 = .ok (.getfield 19, 3) := by decide +kernel
theorem dX9_moor_64 : decode cX9_moor 64 = .ok (.aload_n 0, 1) := by decide +kernel
theorem dX9_moor_65 : decode cX9_moor 65 = .ok (.getfield 23, 3) := by decide +kernel
theorem dX9_moor_68 : decode cX9_moor 68 = .ok (.invokevirtual 101, 3) := by decide +kernel
theorem dX9_moor_71 : decode cX9_moor 71 = .ok (.aload_n 0, 1) := by decide +kernel
theorem dX9_moor_72 : decode cX9_moor 72 = .ok (.getfield 19, 3) := by decide +kernel
theorem dX9_moor_75 : decode cX9_moor 75 = .ok (.getfield 105, 3) := by decide +kernel
theorem dX9_moor_78 : decode cX9_moor 78 = .ok (.ireturn, 1) := by decide +kernel
theorem dX9_fault_0 : decode cX9_fault 0 = .ok (.iload_n 1, 1) := by decide +kernel
theorem dX9_fault_1 : decode cX9_fault 1 = .ok (.ifCond .ne 11, 3) := by decide +kernel
theorem dX9_fault_4 : decode cX9_fault 4 = .ok (.aload_n 0, 1) := by decide +kernel
theorem dX9_fault_5 : decode cX9_fault 5 = .ok (.getfield 31, 3) := by decide +kernel
theorem dX9_fault_8 : decode cX9_fault 8 = .ok (.getfield 98, 3) := by decide +kernel
theorem dX9_fault_11 : decode cX9_fault 11 = .ok (.ireturn, 1) := by decide +kernel
theorem dX9_fault_12 : decode cX9_fault 12 = .ok (.iload_n 1, 1) := by decide +kernel
theorem dX9_fault_13 : decode cX9_fault 13 = .ok (.iconst 1, 1) := by decide +kernel
theorem dX9_fault_14 : decode cX9_fault 14 = .ok (.if_icmp .ne 13, 3) := by decide +kernel
theorem dX9_fault_17 : decode cX9_fault 17 = .ok (.aload_n 0, 1) := by decide +kernel
theorem dX9_fault_18 : decode cX9_fault 18 = .ok (.getfield 31, 3) := by decide +kernel
theorem dX9_fault_21 : decode cX9_fault 21 = .ok (.getfield 108, 3) := by decide +kernel
theorem dX9_fault_24 : decode cX9_fault 24 = .ok (.goto 4, 3) := by decide +kernel
theorem dX9_fault_27 : decode cX9_fault 27 = .ok (.iconst (-1), 1) := by decide +kernel
theorem dX9_fault_28 : decode cX9_fault 28 = .ok (.ireturn, 1) := by decide +kernel
theorem dX9_drive_0 : decode cX9_drive 0 = .ok (.aload_n 0, 1) := by decide +kernel
theorem dX9_drive_1 : decode cX9_drive 1 = .ok (.getfield 19, 3) := by decide +kernel
theorem dX9_drive_4 : decode cX9_drive 4 = .ok (.iload_n 1, 1) := by decide +kernel
theorem dX9_drive_5 : decode cX9_drive 5 = .ok (.invokevirtual 111, 3) := by decide +kernel
theorem dX9_drive_8 : decode cX9_drive 8 = .ok (.ifCond .ne 6, 3) := by decide +kernel
theorem dX9_drive_11 : decode cX9_drive 11 = .ok (.bipush (-2), 2) := by decide +kernel
theorem dX9_drive_13 : decode cX9_drive 13 = .ok (.ireturn, 1) := by decide +kernel
theorem dX9_drive_14 : decode cX9_drive 14 = .ok (.aload_n 0, 1) := by decide +kernel
theorem dX9_drive_15 : decode cX9_drive 15 = .ok (.getfield 19, 3) := by decide +kernel
theorem dX9_drive_18 : decode cX9_drive 18 = .ok (.getfield 115, 3) := by decide +kernel
theorem dX9_drive_21 : decode cX9_drive 21 = .ok (.iload_n 1, 1) := by decide +kernel
theorem dX9_drive_22 : decode cX9_drive 22 = .ok (.aaload, 1) := by decide +kernel
theorem dX9_drive_23 : decode cX9_drive 23 = .ok (.astore_n 3, 1) := by decide +kernel
theorem dX9_drive_24 : decode cX9_drive 24 = .ok (.iload_n 2, 1) := by decide +kernel
theorem dX9_drive_25 : decode cX9_drive 25 = .ok (.tableswitch 87 0 7 #[47, 52, 57, 62, 67, 72, 77, 82], 47) := by decide +kernel
theorem dX9_drive_72 : decode cX9_drive 72 = .ok (.aload_n 3, 1) := by decide +kernel
theorem dX9_drive_73 : decode cX9_drive 73 = .ok (.getfield 119, 3) := by decide +kernel
theorem dX9_drive_76 : decode cX9_drive 76 = .ok (.ireturn, 1) := by decide +kernel
theorem dX9_drive_77 : decode cX9_drive 77 = .ok (.aload_n 3, 1) := by decide +kernel
theorem dX9_drive_78 : decode cX9_drive 78 = .ok (.getfield 124, 3) := by decide +kernel
theorem dX9_drive_81 : decode cX9_drive 81 = .ok (.ireturn, 1) := by decide +kernel
theorem dX9_drive_82 : decode cX9_drive 82 = .ok (.aload_n 3, 1) := by decide +kernel
theorem dX9_drive_83 : decode cX9_drive 83 = .ok (.getfield 127, 3) := by decide +kernel
theorem dX9_drive_86 : decode cX9_drive 86 = .ok (.ireturn, 1) := by decide +kernel
theorem dX9_drive_87 : decode cX9_drive 87 = .ok (.aload_n 3, 1) := by decide +kernel
theorem dX9_drive_88 : decode cX9_drive 88 = .ok (.getfield 130, 3) := by decide +kernel
theorem dX9_drive_91 : decode cX9_drive 91 = .ok (.ireturn, 1) := by decide +kernel
theorem dX9_drive_92 : decode cX9_drive 92 = .ok (.aload_n 3, 1) := by decide +kernel
theorem dX9_drive_93 : decode cX9_drive 93 = .ok (.getfield 133, 3) := by decide +kernel
theorem dX9_drive_96 : decode cX9_drive 96 = .ok (.ireturn, 1) := by decide +kernel
theorem dX9_drive_97 : decode cX9_drive 97 = .ok (.aload_n 3, 1) := by decide +kernel
theorem dX9_drive_98 : decode cX9_drive 98 = .ok (.getfield 136, 3) := by decide +kernel
theorem dX9_drive_101 : decode cX9_drive 101 = .ok (.ireturn, 1) := by decide +kernel
theorem dX9_drive_102 : decode cX9_drive 102 = .ok (.aload_n 3, 1) := by decide +kernel
theorem dX9_drive_103 : decode cX9_drive 103 = .ok (.getfield 139, 3) := by decide +kernel
theorem dX9_drive_106 : decode cX9_drive 106 = .ok (.ireturn, 1) := by decide +kernel
theorem dX9_drive_107 : decode cX9_drive 107 = .ok (.aload_n 3, 1) := by decide +kernel
theorem dX9_drive_108 : decode cX9_drive 108 = .ok (.getfield 142, 3) := by decide +kernel
theorem dX9_drive_111 : decode cX9_drive 111 = .ok (.ireturn, 1) := by decide +kernel
theorem dX9_drive_112 : decode cX9_drive 112 = .ok (.bipush (-2), 2) := by decide +kernel
theorem dX9_drive_114 : decode cX9_drive 114 = .ok (.ireturn, 1) := by decide +kernel
theorem dX9_goes_0 : decode cX9_goes 0 = .ok (.aload_n 0, 1) := by decide +kernel
theorem dX9_goes_1 : decode cX9_goes 1 = .ok (.getfield 19, 3) := by decide +kernel
theorem dX9_goes_4 : decode cX9_goes 4 = .ok (.iload_n 1, 1) := by decide +kernel
theorem dX9_goes_5 : decode cX9_goes 5 = .ok (.invokevirtual 111, 3) := by decide +kernel
theorem dX9_goes_8 : decode cX9_goes 8 = .ok (.ifCond .eq 14, 3) := by decide +kernel
theorem dX9_goes_11 : decode cX9_goes 11 = .ok (.aload_n 0, 1) := by decide +kernel
theorem dX9_goes_12 : decode cX9_goes 12 = .ok (.getfield 19, 3) := by decide +kernel
theorem dX9_goes_15 : decode cX9_goes 15 = .ok (.iload_n 1, 1) := by decide +kernel
theorem dX9_goes_16 : decode cX9_goes 16 = .ok (.invokevirtual 145, 3) := by decide +kernel
theorem dX9_goes_19 : decode cX9_goes 19 = .ok (.goto 5, 3) := by decide +kernel
theorem dX9_goes_22 : decode cX9_goes 22 = .ok (.bipush (-2), 2) := by decide +kernel
theorem dX9_goes_24 : decode cX9_goes 24 = .ok (.ireturn, 1) := by decide +kernel
theorem dX9_law_0 : decode cX9_law 0 = .ok (.aload_n 0, 1) := by decide +kernel
theorem dX9_law_1 : decode cX9_law 1 = .ok (.getfield 19, 3) := by decide +kernel
theorem dX9_law_4 : decode cX9_law 4 = .ok (.invokevirtual 149, 3) := by decide +kernel
theorem dX9_law_7 : decode cX9_law 7 = .ok (.ifCond .eq 11, 3) := by decide +kernel
theorem dX9_law_10 : decode cX9_law 10 = .ok (.iload_n 1, 1) := by decide +kernel
theorem dX9_law_11 : decode cX9_law 11 = .ok (.iload_n 2, 1) := by decide +kernel
theorem dX9_law_12 : decode cX9_law 12 = .ok (.invokestatic 152, 3) := by decide +kernel
theorem dX9_law_15 : decode cX9_law 15 = .ok (.ifCond .ne 6, 3) := by decide +kernel
theorem dX9_law_18 : decode cX9_law 18 = .ok (.bipush (-2), 2) := by decide +kernel
theorem dX9_law_20 : decode cX9_law 20 = .ok (.ireturn, 1) := by decide +kernel
theorem dX9_law_21 : decode cX9_law 21 = .ok (.aload_n 0, 1) := by decide +kernel
theorem dX9_law_22 : decode cX9_law 22 = .ok (.getfield 19, 3) := by decide +kernel
theorem dX9_law_25 : decode cX9_law 25 = .ok (.getfield 156, 3) := by decide +kernel
theorem dX9_law_28 : decode cX9_law 28 = .ok (.iload_n 1, 1) := by decide +kernel
theorem dX9_law_29 : decode cX9_law 29 = .ok (.iaload, 1) := by decide +kernel
theorem dX9_law_30 : decode cX9_law 30 = .ok (.istore_n 3, 1) := by decide +kernel
theorem dX9_law_31 : decode cX9_law 31 = .ok (.aload_n 0, 1) := by decide +kernel
theorem dX9_law_32 : decode cX9_law 32 = .ok (.getfield 19, 3) := by decide +kernel
theorem dX9_law_35 : decode cX9_law 35 = .ok (.getfield 156, 3) := by decide +kernel
theorem dX9_law_38 : decode cX9_law 38 = .ok (.iload_n 1, 1) := by decide +kernel
theorem dX9_law_39 : decode cX9_law 39 = .ok (.iload_n 2, 1) := by decide +kernel
theorem dX9_law_40 : decode cX9_law 40 = .ok (.iastore, 1) := by decide +kernel
theorem dX9_law_41 : decode cX9_law 41 = .ok (.iload_n 3, 1) := by decide +kernel
theorem dX9_law_42 : decode cX9_law 42 = .ok (.ireturn, 1) := by decide +kernel
theorem dX9_isLaw_0 : decode cX9_isLaw 0 = .ok (.iload_n 0, 1) := by decide +kernel
theorem dX9_isLaw_1 : decode cX9_isLaw 1 = .ok (.tableswitch 84 0 4 #[35, 35, 35, 50, 67], 35) := by decide +kernel
theorem dX9_isLaw_36 : decode cX9_isLaw 36 = .ok (.iload_n 1, 1) := by decide +kernel
theorem dX9_isLaw_37 : decode cX9_isLaw 37 = .ok (.ifCond .eq 8, 3) := by decide +kernel
theorem dX9_isLaw_40 : decode cX9_isLaw 40 = .ok (.iload_n 1, 1) := by decide +kernel
theorem dX9_isLaw_41 : decode cX9_isLaw 41 = .ok (.iconst 1, 1) := by decide +kernel
theorem dX9_isLaw_42 : decode cX9_isLaw 42 = .ok (.if_icmp .ne 7, 3) := by decide +kernel
theorem dX9_isLaw_45 : decode cX9_isLaw 45 = .ok (.iconst 1, 1) := by decide +kernel
theorem dX9_isLaw_46 : decode cX9_isLaw 46 = .ok (.goto 4, 3) := by decide +kernel
theorem dX9_isLaw_49 : decode cX9_isLaw 49 = .ok (.iconst 0, 1) := by decide +kernel
theorem dX9_isLaw_50 : decode cX9_isLaw 50 = .ok (.ireturn, 1) := by decide +kernel
theorem dX9_isLaw_51 : decode cX9_isLaw 51 = .ok (.iload_n 1, 1) := by decide +kernel
theorem dX9_isLaw_52 : decode cX9_isLaw 52 = .ok (.iconst 2, 1) := by decide +kernel
theorem dX9_isLaw_53 : decode cX9_isLaw 53 = .ok (.if_icmp .lt 13, 3) := by decide +kernel
theorem dX9_isLaw_56 : decode cX9_isLaw 56 = .ok (.iload_n 1, 1) := by decide +kernel
theorem dX9_isLaw_57 : decode cX9_isLaw 57 = .ok (.bipush 100, 2) := by decide +kernel
theorem dX9_isLaw_59 : decode cX9_isLaw 59 = .ok (.if_icmp .gt 7, 3) := by decide +kernel
theorem dX9_isLaw_62 : decode cX9_isLaw 62 = .ok (.iconst 1, 1) := by decide +kernel
theorem dX9_isLaw_63 : decode cX9_isLaw 63 = .ok (.goto 4, 3) := by decide +kernel
theorem dX9_isLaw_66 : decode cX9_isLaw 66 = .ok (.iconst 0, 1) := by decide +kernel
theorem dX9_isLaw_67 : decode cX9_isLaw 67 = .ok (.ireturn, 1) := by decide +kernel
theorem dX9_isLaw_68 : decode cX9_isLaw 68 = .ok (.iload_n 1, 1) := by decide +kernel
theorem dX9_isLaw_69 : decode cX9_isLaw 69 = .ok (.ifCond .lt 14, 3) := by decide +kernel
theorem dX9_isLaw_72 : decode cX9_isLaw 72 = .ok (.iload_n 1, 1) := by decide +kernel
theorem dX9_isLaw_73 : decode cX9_isLaw 73 = .ok (.sipush 999, 3) := by decide +kernel
theorem dX9_isLaw_76 : decode cX9_isLaw 76 = .ok (.if_icmp .gt 7, 3) := by decide +kernel
theorem dX9_isLaw_79 : decode cX9_isLaw 79 = .ok (.iconst 1, 1) := by decide +kernel
theorem dX9_isLaw_80 : decode cX9_isLaw 80 = .ok (.goto 4, 3) := by decide +kernel
theorem dX9_isLaw_83 : decode cX9_isLaw 83 = .ok (.iconst 0, 1) := by decide +kernel
theorem dX9_isLaw_84 : decode cX9_isLaw 84 = .ok (.ireturn, 1) := by decide +kernel
theorem dX9_isLaw_85 : decode cX9_isLaw 85 = .ok (.iconst 0, 1) := by decide +kernel
theorem dX9_isLaw_86 : decode cX9_isLaw 86 = .ok (.ireturn, 1) := by decide +kernel
theorem dX9_sets_0 : decode cX9_sets 0 = .ok (.aload_n 0, 1) := by decide +kernel
theorem dX9_sets_1 : decode cX9_sets 1 = .ok (.getfield 19, 3) := by decide +kernel
theorem dX9_sets_4 : decode cX9_sets 4 = .ok (.iload_n 1, 1) := by decide +kernel
theorem dX9_sets_5 : decode cX9_sets 5 = .ok (.invokevirtual 111, 3) := by decide +kernel
theorem dX9_sets_8 : decode cX9_sets 8 = .ok (.ifCond .eq 21, 3) := by decide +kernel
theorem dX9_sets_11 : decode cX9_sets 11 = .ok (.aload_n 0, 1) := by decide +kernel
theorem dX9_sets_12 : decode cX9_sets 12 = .ok (.getfield 19, 3) := by decide +kernel
theorem dX9_sets_15 : decode cX9_sets 15 = .ok (.iload_n 2, 1) := by decide +kernel
theorem dX9_sets_16 : decode cX9_sets 16 = .ok (.invokevirtual 160, 3) := by decide +kernel
theorem dX9_sets_19 : decode cX9_sets 19 = .ok (.ifCond .eq 10, 3) := by decide +kernel
theorem dX9_sets_22 : decode cX9_sets 22 = .ok (.iload_n 3, 1) := by decide +kernel
theorem dX9_sets_23 : decode cX9_sets 23 = .ok (.invokestatic 163, 3) := by decide +kernel
theorem dX9_sets_26 : decode cX9_sets 26 = .ok (.ifCond .ne 6, 3) := by decide +kernel
theorem dX9_sets_29 : decode cX9_sets 29 = .ok (.bipush (-2), 2) := by decide +kernel
theorem dX9_sets_31 : decode cX9_sets 31 = .ok (.ireturn, 1) := by decide +kernel
theorem dX9_sets_32 : decode cX9_sets 32 = .ok (.aload_n 0, 1) := by decide +kernel
theorem dX9_sets_33 : decode cX9_sets 33 = .ok (.getfield 19, 3) := by decide +kernel
theorem dX9_sets_36 : decode cX9_sets 36 = .ok (.getfield 115, 3) := by decide +kernel
theorem dX9_sets_39 : decode cX9_sets 39 = .ok (.iload_n 1, 1) := by decide +kernel
theorem dX9_sets_40 : decode cX9_sets 40 = .ok (.aaload, 1) := by decide +kernel
theorem dX9_sets_41 : decode cX9_sets 41 = .ok (.astore 4, 2) := by decide +kernel
theorem dX9_sets_43 : decode cX9_sets 43 = .ok (.aload 4, 2) := by decide +kernel
theorem dX9_sets_45 : decode cX9_sets 45 = .ok (.invokevirtual 166, 3) := by decide +kernel
theorem dX9_sets_48 : decode cX9_sets 48 = .ok (.istore 5, 2) := by decide +kernel
theorem dX9_sets_50 : decode cX9_sets 50 = .ok (.aload 4, 2) := by decide +kernel
theorem dX9_sets_52 : decode cX9_sets 52 = .ok (.iload_n 2, 1) := by decide +kernel
theorem dX9_sets_53 : decode cX9_sets 53 = .ok (.putfield 124, 3) := by decide +kernel
theorem dX9_sets_56 : decode cX9_sets 56 = .ok (.aload 4, 2) := by decide +kernel
theorem dX9_sets_58 : decode cX9_sets 58 = .ok (.iload_n 3, 1) := by decide +kernel
theorem dX9_sets_59 : decode cX9_sets 59 = .ok (.putfield 130, 3) := by decide +kernel
theorem dX9_sets_62 : decode cX9_sets 62 = .ok (.iload 5, 2) := by decide +kernel
theorem dX9_sets_64 : decode cX9_sets 64 = .ok (.ireturn, 1) := by decide +kernel
theorem dX9_isHour_0 : decode cX9_isHour 0 = .ok (.iload_n 0, 1) := by decide +kernel
theorem dX9_isHour_1 : decode cX9_isHour 1 = .ok (.ifCond .lt 13, 3) := by decide +kernel
theorem dX9_isHour_4 : decode cX9_isHour 4 = .ok (.iload_n 0, 1) := by decide +kernel
theorem dX9_isHour_5 : decode cX9_isHour 5 = .ok (.bipush 24, 2) := by decide +kernel
theorem dX9_isHour_7 : decode cX9_isHour 7 = .ok (.if_icmp .ge 7, 3) := by decide +kernel
theorem dX9_isHour_10 : decode cX9_isHour 10 = .ok (.iconst 1, 1) := by decide +kernel
theorem dX9_isHour_11 : decode cX9_isHour 11 = .ok (.goto 4, 3) := by decide +kernel
theorem dX9_isHour_14 : decode cX9_isHour 14 = .ok (.iconst 0, 1) := by decide +kernel
theorem dX9_isHour_15 : decode cX9_isHour 15 = .ok (.ireturn, 1) := by decide +kernel
theorem dX9_counter_0 : decode cX9_counter 0 = .ok (.aload_n 0, 1) := by decide +kernel
theorem dX9_counter_1 : decode cX9_counter 1 = .ok (.getfield 19, 3) := by decide +kernel
theorem dX9_counter_4 : decode cX9_counter 4 = .ok (.iload_n 1, 1) := by decide +kernel
theorem dX9_counter_5 : decode cX9_counter 5 = .ok (.invokevirtual 160, 3) := by decide +kernel
theorem dX9_counter_8 : decode cX9_counter 8 = .ok (.ifCond .eq 21, 3) := by decide +kernel
theorem dX9_counter_11 : decode cX9_counter 11 = .ok (.aload_n 0, 1) := by decide +kernel
theorem dX9_counter_12 : decode cX9_counter 12 = .ok (.getfield 19, 3) := by decide +kernel
theorem dX9_counter_15 : decode cX9_counter 15 = .ok (.iload_n 2, 1) := by decide +kernel
theorem dX9_counter_16 : decode cX9_counter 16 = .ok (.invokevirtual 170, 3) := by decide +kernel
theorem dX9_counter_19 : decode cX9_counter 19 = .ok (.ifCond .eq 10, 3) := by decide +kernel
theorem dX9_counter_22 : decode cX9_counter 22 = .ok (.iload_n 3, 1) := by decide +kernel
theorem dX9_counter_23 : decode cX9_counter 23 = .ok (.invokestatic 163, 3) := by decide +kernel
theorem dX9_counter_26 : decode cX9_counter 26 = .ok (.ifCond .ne 6, 3) := by decide +kernel
theorem dX9_counter_29 : decode cX9_counter 29 = .ok (.bipush (-2), 2) := by decide +kernel
theorem dX9_counter_31 : decode cX9_counter 31 = .ok (.ireturn, 1) := by decide +kernel
theorem dX9_counter_32 : decode cX9_counter 32 = .ok (.aload_n 0, 1) := by decide +kernel
theorem dX9_counter_33 : decode cX9_counter 33 = .ok (.getfield 53, 3) := by decide +kernel
theorem dX9_counter_36 : decode cX9_counter 36 = .ok (.aload_n 0, 1) := by decide +kernel
theorem dX9_counter_37 : decode cX9_counter 37 = .ok (.getfield 19, 3) := by decide +kernel
theorem dX9_counter_40 : decode cX9_counter 40 = .ok (.bipush 24, 2) := by decide +kernel
theorem dX9_counter_42 : decode cX9_counter 42 = .ok (.iload_n 2, 1) := by decide +kernel
theorem dX9_counter_43 : decode cX9_counter 43 = .ok (.imul, 1) := by decide +kernel
theorem dX9_counter_44 : decode cX9_counter 44 = .ok (.iload_n 3, 1) := by decide +kernel
theorem dX9_counter_45 : decode cX9_counter 45 = .ok (.iadd, 1) := by decide +kernel
theorem dX9_counter_46 : decode cX9_counter 46 = .ok (.invokevirtual 173, 3) := by decide +kernel
theorem dX9_counter_49 : decode cX9_counter 49 = .ok (.aload_n 0, 1) := by decide +kernel
theorem dX9_counter_50 : decode cX9_counter 50 = .ok (.getfield 53, 3) := by decide +kernel
theorem dX9_counter_53 : decode cX9_counter 53 = .ok (.getfield 177, 3) := by decide +kernel
theorem dX9_counter_56 : decode cX9_counter 56 = .ok (.aload_n 0, 1) := by decide +kernel
theorem dX9_counter_57 : decode cX9_counter 57 = .ok (.getfield 19, 3) := by decide +kernel
theorem dX9_counter_60 : decode cX9_counter 60 = .ok (.iload_n 1, 1) := by decide +kernel
theorem dX9_counter_61 : decode cX9_counter 61 = .ok (.invokevirtual 180, 3) := by decide +kernel
theorem dX9_counter_64 : decode cX9_counter 64 = .ok (.iaload, 1) := by decide +kernel
theorem dX9_counter_65 : decode cX9_counter 65 = .ok (.ireturn, 1) := by decide +kernel
theorem dX9_through_0 : decode cX9_through 0 = .ok (.aload_n 0, 1) := by decide +kernel
theorem dX9_through_1 : decode cX9_through 1 = .ok (.getfield 19, 3) := by decide +kernel
theorem dX9_through_4 : decode cX9_through 4 = .ok (.iload_n 1, 1) := by decide +kernel
theorem dX9_through_5 : decode cX9_through 5 = .ok (.invokevirtual 160, 3) := by decide +kernel
theorem dX9_through_8 : decode cX9_through 8 = .ok (.ifCond .eq 23, 3) := by decide +kernel
theorem dX9_through_11 : decode cX9_through 11 = .ok (.aload_n 0, 1) := by decide +kernel
theorem dX9_through_12 : decode cX9_through 12 = .ok (.getfield 19, 3) := by decide +kernel
theorem dX9_through_15 : decode cX9_through 15 = .ok (.iload_n 2, 1) := by decide +kernel
theorem dX9_through_16 : decode cX9_through 16 = .ok (.invokevirtual 170, 3) := by decide +kernel
theorem dX9_through_19 : decode cX9_through 19 = .ok (.ifCond .eq 12, 3) := by decide +kernel
theorem dX9_through_22 : decode cX9_through 22 = .ok (.iload_n 3, 1) := by decide +kernel
theorem dX9_through_23 : decode cX9_through 23 = .ok (.ifCond .lt 8, 3) := by decide +kernel
theorem dX9_through_26 : decode cX9_through 26 = .ok (.iload_n 3, 1) := by decide +kernel
theorem dX9_through_27 : decode cX9_through 27 = .ok (.iconst 1, 1) := by decide +kernel
theorem dX9_through_28 : decode cX9_through 28 = .ok (.if_icmp .le 6, 3) := by decide +kernel
theorem dX9_through_31 : decode cX9_through 31 = .ok (.bipush (-2), 2) := by decide +kernel
theorem dX9_through_33 : decode cX9_through 33 = .ok (.ireturn, 1) := by decide +kernel
theorem dX9_through_34 : decode cX9_through 34 = .ok (.iload_n 3, 1) := by decide +kernel
theorem dX9_through_35 : decode cX9_through 35 = .ok (.ifCond .ne 15, 3) := by decide +kernel
theorem dX9_through_38 : decode cX9_through 38 = .ok (.aload_n 0, 1) := by decide +kernel
theorem dX9_through_39 : decode cX9_through 39 = .ok (.getfield 19, 3) := by decide +kernel
theorem dX9_through_42 : decode cX9_through 42 = .ok (.iload_n 1, 1) := by decide +kernel
theorem dX9_through_43 : decode cX9_through 43 = .ok (.iload_n 2, 1) := by decide +kernel
theorem dX9_through_44 : decode cX9_through 44 = .ok (.invokevirtual 183, 3) := by decide +kernel
theorem dX9_through_47 : decode cX9_through 47 = .ok (.goto 12, 3) := by decide +kernel
theorem dX9_through_50 : decode cX9_through 50 = .ok (.aload_n 0, 1) := by decide +kernel
theorem dX9_through_51 : decode cX9_through 51 = .ok (.getfield 19, 3) := by decide +kernel
theorem dX9_through_54 : decode cX9_through 54 = .ok (.iload_n 1, 1) := by decide +kernel
theorem dX9_through_55 : decode cX9_through 55 = .ok (.iload_n 2, 1) := by decide +kernel
theorem dX9_through_56 : decode cX9_through 56 = .ok (.invokevirtual 187, 3) := by decide +kernel
theorem dX9_through_59 : decode cX9_through 59 = .ok (.ireturn, 1) := by decide +kernel
theorem dX9_dues_0 : decode cX9_dues 0 = .ok (.aload_n 0, 1) := by decide +kernel
theorem dX9_dues_1 : decode cX9_dues 1 = .ok (.getfield 19, 3) := by decide +kernel
theorem dX9_dues_4 : decode cX9_dues 4 = .ok (.invokevirtual 149, 3) := by decide +kernel
theorem dX9_dues_7 : decode cX9_dues 7 = .ok (.ifCond .eq 17, 3) := by decide +kernel
theorem dX9_dues_10 : decode cX9_dues 10 = .ok (.aload_n 0, 1) := by decide +kernel
theorem dX9_dues_11 : decode cX9_dues 11 = .ok (.getfield 53, 3) := by decide +kernel
theorem dX9_dues_14 : decode cX9_dues 14 = .ok (.aload_n 0, 1) := by decide +kernel
theorem dX9_dues_15 : decode cX9_dues 15 = .ok (.getfield 19, 3) := by decide +kernel
theorem dX9_dues_18 : decode cX9_dues 18 = .ok (.invokevirtual 190, 3) := by decide +kernel
theorem dX9_dues_21 : decode cX9_dues 21 = .ok (.goto 5, 3) := by decide +kernel
theorem dX9_dues_24 : decode cX9_dues 24 = .ok (.bipush (-2), 2) := by decide +kernel
theorem dX9_dues_26 : decode cX9_dues 26 = .ok (.ireturn, 1) := by decide +kernel
theorem dX9_due_0 : decode cX9_due 0 = .ok (.aload_n 0, 1) := by decide +kernel
theorem dX9_due_1 : decode cX9_due 1 = .ok (.getfield 19, 3) := by decide +kernel
theorem dX9_due_4 : decode cX9_due 4 = .ok (.invokevirtual 149, 3) := by decide +kernel
theorem dX9_due_7 : decode cX9_due 7 = .ok (.ifCond .eq 12, 3) := by decide +kernel
theorem dX9_due_10 : decode cX9_due 10 = .ok (.iload_n 2, 1) := by decide +kernel
theorem dX9_due_11 : decode cX9_due 11 = .ok (.ifCond .lt 8, 3) := by decide +kernel
theorem dX9_due_14 : decode cX9_due 14 = .ok (.iload_n 2, 1) := by decide +kernel
theorem dX9_due_15 : decode cX9_due 15 = .ok (.iconst 5, 1) := by decide +kernel
theorem dX9_due_16 : decode cX9_due 16 = .ok (.if_icmp .le 6, 3) := by decide +kernel
theorem dX9_due_19 : decode cX9_due 19 = .ok (.bipush (-2), 2) := by decide +kernel
theorem dX9_due_21 : decode cX9_due 21 = .ok (.ireturn, 1) := by decide +kernel
theorem dX9_due_22 : decode cX9_due 22 = .ok (.iload_n 1, 1) := by decide +kernel
theorem dX9_due_23 : decode cX9_due 23 = .ok (.ifCond .lt 18, 3) := by decide +kernel
theorem dX9_due_26 : decode cX9_due 26 = .ok (.aload_n 0, 1) := by decide +kernel
theorem dX9_due_27 : decode cX9_due 27 = .ok (.getfield 53, 3) := by decide +kernel
theorem dX9_due_30 : decode cX9_due 30 = .ok (.aload_n 0, 1) := by decide +kernel
theorem dX9_due_31 : decode cX9_due 31 = .ok (.getfield 19, 3) := by decide +kernel
theorem dX9_due_34 : decode cX9_due 34 = .ok (.iload_n 1, 1) := by decide +kernel
theorem dX9_due_35 : decode cX9_due 35 = .ok (.invokevirtual 194, 3) := by decide +kernel
theorem dX9_due_38 : decode cX9_due 38 = .ok (.ifCond .ne 5, 3) := by decide +kernel
theorem dX9_due_41 : decode cX9_due 41 = .ok (.iconst (-1), 1) := by decide +kernel
theorem dX9_due_42 : decode cX9_due 42 = .ok (.ireturn, 1) := by decide +kernel
theorem dX9_due_43 : decode cX9_due 43 = .ok (.aload_n 0, 1) := by decide +kernel
theorem dX9_due_44 : decode cX9_due 44 = .ok (.getfield 53, 3) := by decide +kernel
theorem dX9_due_47 : decode cX9_due 47 = .ok (.getfield 198, 3) := by decide +kernel
theorem dX9_due_50 : decode cX9_due 50 = .ok (.istore_n 3, 1) := by decide +kernel
theorem dX9_due_51 : decode cX9_due 51 = .ok (.iload_n 2, 1) := by decide +kernel
theorem dX9_due_52 : decode cX9_due 52 = .ok (.tableswitch 88 0 4 #[36, 48, 60, 73, 86], 36) := by decide +kernel
theorem dX9_due_88 : decode cX9_due 88 = .ok (.aload_n 0, 1) := by decide +kernel
theorem dX9_due_89 : decode cX9_due 89 = .ok (.getfield 19, 3) := by decide +kernel
theorem dX9_due_92 : decode cX9_due 92 = .ok (.iload_n 3, 1) := by decide +kernel
theorem dX9_due_93 : decode cX9_due 93 = .ok (.invokevirtual 145, 3) := by decide +kernel
theorem dX9_due_96 : decode cX9_due 96 = .ok (.bipush 24, 2) := by decide +kernel
theorem dX9_due_98 : decode cX9_due 98 = .ok (.idiv, 1) := by decide +kernel
theorem dX9_due_99 : decode cX9_due 99 = .ok (.ireturn, 1) := by decide +kernel
theorem dX9_due_100 : decode cX9_due 100 = .ok (.aload_n 0, 1) := by decide +kernel
theorem dX9_due_101 : decode cX9_due 101 = .ok (.getfield 19, 3) := by decide +kernel
theorem dX9_due_104 : decode cX9_due 104 = .ok (.iload_n 3, 1) := by decide +kernel
theorem dX9_due_105 : decode cX9_due 105 = .ok (.invokevirtual 145, 3) := by decide +kernel
theorem dX9_due_108 : decode cX9_due 108 = .ok (.bipush 24, 2) := by decide +kernel
theorem dX9_due_110 : decode cX9_due 110 = .ok (.irem, 1) := by decide +kernel
theorem dX9_due_111 : decode cX9_due 111 = .ok (.ireturn, 1) := by decide +kernel
theorem dX9_due_112 : decode cX9_due 112 = .ok (.aload_n 0, 1) := by decide +kernel
theorem dX9_due_113 : decode cX9_due 113 = .ok (.getfield 19, 3) := by decide +kernel
theorem dX9_due_116 : decode cX9_due 116 = .ok (.getfield 115, 3) := by decide +kernel
theorem dX9_due_119 : decode cX9_due 119 = .ok (.iload_n 3, 1) := by decide +kernel
theorem dX9_due_120 : decode cX9_due 120 = .ok (.aaload, 1) := by decide +kernel
theorem dX9_due_121 : decode cX9_due 121 = .ok (.getfield 124, 3) := by decide +kernel
theorem dX9_due_124 : decode cX9_due 124 = .ok (.ireturn, 1) := by decide +kernel
theorem dX9_due_125 : decode cX9_due 125 = .ok (.aload_n 0, 1) := by decide +kernel
theorem dX9_due_126 : decode cX9_due 126 = .ok (.getfield 19, 3) := by decide +kernel
theorem dX9_due_129 : decode cX9_due 129 = .ok (.getfield 115, 3) := by decide +kernel
theorem dX9_due_132 : decode cX9_due 132 = .ok (.iload_n 3, 1) := by decide +kernel
theorem dX9_due_133 : decode cX9_due 133 = .ok (.aaload, 1) := by decide +kernel
theorem dX9_due_134 : decode cX9_due 134 = .ok (.getfield 139, 3) := by decide +kernel
theorem dX9_due_137 : decode cX9_due 137 = .ok (.ireturn, 1) := by decide +kernel
theorem dX9_due_138 : decode cX9_due 138 = .ok (.iload_n 3, 1) := by decide +kernel
theorem dX9_due_139 : decode cX9_due 139 = .ok (.ireturn, 1) := by decide +kernel
theorem dX9_due_140 : decode cX9_due 140 = .ok (.aload_n 0, 1) := by decide +kernel
theorem dX9_due_141 : decode cX9_due 141 = .ok (.getfield 53, 3) := by decide +kernel
theorem dX9_due_144 : decode cX9_due 144 = .ok (.getfield 201, 3) := by decide +kernel
theorem dX9_due_147 : decode cX9_due 147 = .ok (.ireturn, 1) := by decide +kernel
theorem dX9_paid_0 : decode cX9_paid 0 = .ok (.aload_n 0, 1) := by decide +kernel
theorem dX9_paid_1 : decode cX9_paid 1 = .ok (.getfield 19, 3) := by decide +kernel
theorem dX9_paid_4 : decode cX9_paid 4 = .ok (.iload_n 1, 1) := by decide +kernel
theorem dX9_paid_5 : decode cX9_paid 5 = .ok (.invokevirtual 204, 3) := by decide +kernel
theorem dX9_paid_8 : decode cX9_paid 8 = .ok (.ifCond .ne 6, 3) := by decide +kernel
theorem dX9_paid_11 : decode cX9_paid 11 = .ok (.bipush (-2), 2) := by decide +kernel
theorem dX9_paid_13 : decode cX9_paid 13 = .ok (.ireturn, 1) := by decide +kernel
theorem dX9_paid_14 : decode cX9_paid 14 = .ok (.aload_n 0, 1) := by decide +kernel
theorem dX9_paid_15 : decode cX9_paid 15 = .ok (.getfield 53, 3) := by decide +kernel
theorem dX9_paid_18 : decode cX9_paid 18 = .ok (.aload_n 0, 1) := by decide +kernel
theorem dX9_paid_19 : decode cX9_paid 19 = .ok (.getfield 19, 3) := by decide +kernel
theorem dX9_paid_22 : decode cX9_paid 22 = .ok (.iload_n 1, 1) := by decide +kernel
theorem dX9_paid_23 : decode cX9_paid 23 = .ok (.invokevirtual 207, 3) := by decide +kernel
theorem dX9_paid_26 : decode cX9_paid 26 = .ok (.ireturn, 1) := by decide +kernel
theorem dX9_pays_0 : decode cX9_pays 0 = .ok (.aload_n 0, 1) := by decide +kernel
theorem dX9_pays_1 : decode cX9_pays 1 = .ok (.getfield 19, 3) := by decide +kernel
theorem dX9_pays_4 : decode cX9_pays 4 = .ok (.iload_n 1, 1) := by decide +kernel
theorem dX9_pays_5 : decode cX9_pays 5 = .ok (.invokevirtual 204, 3) := by decide +kernel
theorem dX9_pays_8 : decode cX9_pays 8 = .ok (.ifCond .eq 14, 3) := by decide +kernel
theorem dX9_pays_11 : decode cX9_pays 11 = .ok (.aload_n 0, 1) := by decide +kernel
theorem dX9_pays_12 : decode cX9_pays 12 = .ok (.getfield 19, 3) := by decide +kernel
theorem dX9_pays_15 : decode cX9_pays 15 = .ok (.iload_n 2, 1) := by decide +kernel
theorem dX9_pays_16 : decode cX9_pays 16 = .ok (.invokevirtual 170, 3) := by decide +kernel
theorem dX9_pays_19 : decode cX9_pays 19 = .ok (.ifCond .ne 6, 3) := by decide +kernel
theorem dX9_pays_22 : decode cX9_pays 22 = .ok (.bipush (-2), 2) := by decide +kernel
theorem dX9_pays_24 : decode cX9_pays 24 = .ok (.ireturn, 1) := by decide +kernel
theorem dX9_pays_25 : decode cX9_pays 25 = .ok (.aload_n 0, 1) := by decide +kernel
theorem dX9_pays_26 : decode cX9_pays 26 = .ok (.getfield 53, 3) := by decide +kernel
theorem dX9_pays_29 : decode cX9_pays 29 = .ok (.aload_n 0, 1) := by decide +kernel
theorem dX9_pays_30 : decode cX9_pays 30 = .ok (.getfield 19, 3) := by decide +kernel
theorem dX9_pays_33 : decode cX9_pays 33 = .ok (.iload_n 1, 1) := by decide +kernel
theorem dX9_pays_34 : decode cX9_pays 34 = .ok (.iload_n 2, 1) := by decide +kernel
theorem dX9_pays_35 : decode cX9_pays 35 = .ok (.invokevirtual 211, 3) := by decide +kernel
theorem dX9_pays_38 : decode cX9_pays 38 = .ok (.ireturn, 1) := by decide +kernel
theorem dX9_worst_0 : decode cX9_worst 0 = .ok (.aload_n 0, 1) := by decide +kernel
theorem dX9_worst_1 : decode cX9_worst 1 = .ok (.getfield 19, 3) := by decide +kernel
theorem dX9_worst_4 : decode cX9_worst 4 = .ok (.invokevirtual 149, 3) := by decide +kernel
theorem dX9_worst_7 : decode cX9_worst 7 = .ok (.ifCond .ne 6, 3) := by decide +kernel
theorem dX9_worst_10 : decode cX9_worst 10 = .ok (.bipush (-2), 2) := by decide +kernel
theorem dX9_worst_12 : decode cX9_worst 12 = .ok (.ireturn, 1) := by decide +kernel
theorem dX9_worst_13 : decode cX9_worst 13 = .ok (.aload_n 0, 1) := by decide +kernel
theorem dX9_worst_14 : decode cX9_worst 14 = .ok (.getfield 53, 3) := by decide +kernel
theorem dX9_worst_17 : decode cX9_worst 17 = .ok (.aload_n 0, 1) := by decide +kernel
theorem dX9_worst_18 : decode cX9_worst 18 = .ok (.getfield 19, 3) := by decide +kernel
theorem dX9_worst_21 : decode cX9_worst 21 = .ok (.invokevirtual 190, 3) := by decide +kernel
theorem dX9_worst_24 : decode cX9_worst 24 = .ok (.pop, 1) := by decide +kernel
theorem dX9_worst_25 : decode cX9_worst 25 = .ok (.iconst (-1), 1) := by decide +kernel
theorem dX9_worst_26 : decode cX9_worst 26 = .ok (.istore_n 1, 1) := by decide +kernel
theorem dX9_worst_27 : decode cX9_worst 27 = .ok (.iconst 0, 1) := by decide +kernel
theorem dX9_worst_28 : decode cX9_worst 28 = .ok (.istore_n 2, 1) := by decide +kernel
theorem dX9_worst_29 : decode cX9_worst 29 = .ok (.iconst 0, 1) := by decide +kernel
theorem dX9_worst_30 : decode cX9_worst 30 = .ok (.istore_n 3, 1) := by decide +kernel
theorem dX9_worst_31 : decode cX9_worst 31 = .ok (.iload_n 3, 1) := by decide +kernel
theorem dX9_worst_32 : decode cX9_worst 32 = .ok (.aload_n 0, 1) := by decide +kernel
theorem dX9_worst_33 : decode cX9_worst 33 = .ok (.getfield 19, 3) := by decide +kernel
theorem dX9_worst_36 : decode cX9_worst 36 = .ok (.getfield 215, 3) := by decide +kernel
theorem dX9_worst_39 : decode cX9_worst 39 = .ok (.if_icmp .ge 34, 3) := by decide +kernel
theorem dX9_worst_42 : decode cX9_worst 42 = .ok (.aload_n 0, 1) := by decide +kernel
theorem dX9_worst_43 : decode cX9_worst 43 = .ok (.getfield 53, 3) := by decide +kernel
theorem dX9_worst_46 : decode cX9_worst 46 = .ok (.getfield 218, 3) := by decide +kernel
theorem dX9_worst_49 : decode cX9_worst 49 = .ok (.iload_n 3, 1) := by decide +kernel
theorem dX9_worst_50 : decode cX9_worst 50 = .ok (.iaload, 1) := by decide +kernel
theorem dX9_worst_51 : decode cX9_worst 51 = .ok (.iload_n 2, 1) := by decide +kernel
theorem dX9_worst_52 : decode cX9_worst 52 = .ok (.if_icmp .le 15, 3) := by decide +kernel
theorem dX9_worst_55 : decode cX9_worst 55 = .ok (.aload_n 0, 1) := by decide +kernel
theorem dX9_worst_56 : decode cX9_worst 56 = .ok (.getfield 53, 3) := by decide +kernel
theorem dX9_worst_59 : decode cX9_worst 59 = .ok (.getfield 218, 3) := by decide +kernel
theorem dX9_worst_62 : decode cX9_worst 62 = .ok (.iload_n 3, 1) := by decide +kernel
theorem dX9_worst_63 : decode cX9_worst 63 = .ok (.iaload, 1) := by decide +kernel
theorem dX9_worst_64 : decode cX9_worst 64 = .ok (.istore_n 2, 1) := by decide +kernel
theorem dX9_worst_65 : decode cX9_worst 65 = .ok (.iload_n 3, 1) := by decide +kernel
theorem dX9_worst_66 : decode cX9_worst 66 = .ok (.istore_n 1, 1) := by decide +kernel
theorem dX9_worst_67 : decode cX9_worst 67 = .ok (.iinc 3 1, 3) := by decide +kernel
theorem dX9_worst_70 : decode cX9_worst 70 = .ok (.goto (-39), 3) := by decide +kernel
theorem dX9_worst_73 : decode cX9_worst 73 = .ok (.iload_n 1, 1) := by decide +kernel
theorem dX9_worst_74 : decode cX9_worst 74 = .ok (.ireturn, 1) := by decide +kernel
theorem dX9_left_0 : decode cX9_left 0 = .ok (.aload_n 0, 1) := by decide +kernel
theorem dX9_left_1 : decode cX9_left 1 = .ok (.getfield 19, 3) := by decide +kernel
theorem dX9_left_4 : decode cX9_left 4 = .ok (.iload_n 1, 1) := by decide +kernel
theorem dX9_left_5 : decode cX9_left 5 = .ok (.invokevirtual 160, 3) := by decide +kernel
theorem dX9_left_8 : decode cX9_left 8 = .ok (.ifCond .eq 18, 3) := by decide +kernel
theorem dX9_left_11 : decode cX9_left 11 = .ok (.aload_n 0, 1) := by decide +kernel
theorem dX9_left_12 : decode cX9_left 12 = .ok (.getfield 53, 3) := by decide +kernel
theorem dX9_left_15 : decode cX9_left 15 = .ok (.aload_n 0, 1) := by decide +kernel
theorem dX9_left_16 : decode cX9_left 16 = .ok (.getfield 19, 3) := by decide +kernel
theorem dX9_left_19 : decode cX9_left 19 = .ok (.iload_n 1, 1) := by decide +kernel
theorem dX9_left_20 : decode cX9_left 20 = .ok (.invokevirtual 221, 3) := by decide +kernel
theorem dX9_left_23 : decode cX9_left 23 = .ok (.goto 5, 3) := by decide +kernel
theorem dX9_left_26 : decode cX9_left 26 = .ok (.bipush (-2), 2) := by decide +kernel
theorem dX9_left_28 : decode cX9_left 28 = .ok (.ireturn, 1) := by decide +kernel
theorem dX9_best_0 : decode cX9_best 0 = .ok (.aload_n 0, 1) := by decide +kernel
theorem dX9_best_1 : decode cX9_best 1 = .ok (.getfield 19, 3) := by decide +kernel
theorem dX9_best_4 : decode cX9_best 4 = .ok (.iload_n 1, 1) := by decide +kernel
theorem dX9_best_5 : decode cX9_best 5 = .ok (.invokevirtual 111, 3) := by decide +kernel
theorem dX9_best_8 : decode cX9_best 8 = .ok (.ifCond .eq 12, 3) := by decide +kernel
theorem dX9_best_11 : decode cX9_best 11 = .ok (.iload_n 2, 1) := by decide +kernel
theorem dX9_best_12 : decode cX9_best 12 = .ok (.ifCond .lt 8, 3) := by decide +kernel
theorem dX9_best_15 : decode cX9_best 15 = .ok (.iload_n 2, 1) := by decide +kernel
theorem dX9_best_16 : decode cX9_best 16 = .ok (.iconst 2, 1) := by decide +kernel
theorem dX9_best_17 : decode cX9_best 17 = .ok (.if_icmp .le 6, 3) := by decide +kernel
theorem dX9_best_20 : decode cX9_best 20 = .ok (.bipush (-2), 2) := by decide +kernel
theorem dX9_best_22 : decode cX9_best 22 = .ok (.ireturn, 1) := by decide +kernel
theorem dX9_best_23 : decode cX9_best 23 = .ok (.aload_n 0, 1) := by decide +kernel
theorem dX9_best_24 : decode cX9_best 24 = .ok (.getfield 62, 3) := by decide +kernel
theorem dX9_best_27 : decode cX9_best 27 = .ok (.aload_n 0, 1) := by decide +kernel
theorem dX9_best_28 : decode cX9_best 28 = .ok (.getfield 19, 3) := by decide +kernel
theorem dX9_best_31 : decode cX9_best 31 = .ok (.invokevirtual 224, 3) := by decide +kernel
theorem dX9_best_34 : decode cX9_best 34 = .ok (.aload_n 0, 1) := by decide +kernel
theorem dX9_best_35 : decode cX9_best 35 = .ok (.getfield 62, 3) := by decide +kernel
theorem dX9_best_38 : decode cX9_best 38 = .ok (.iload_n 1, 1) := by decide +kernel
theorem dX9_best_39 : decode cX9_best 39 = .ok (.invokevirtual 227, 3) := by decide +kernel
theorem dX9_best_42 : decode cX9_best 42 = .ok (.iload_n 2, 1) := by decide +kernel
theorem dX9_best_43 : decode cX9_best 43 = .ok (.ifCond .ne 11, 3) := by decide +kernel
theorem dX9_best_46 : decode cX9_best 46 = .ok (.aload_n 0, 1) := by decide +kernel
theorem dX9_best_47 : decode cX9_best 47 = .ok (.getfield 62, 3) := by decide +kernel
theorem dX9_best_50 : decode cX9_best 50 = .ok (.getfield 230, 3) := by decide +kernel
theorem dX9_best_53 : decode cX9_best 53 = .ok (.ireturn, 1) := by decide +kernel
theorem dX9_best_54 : decode cX9_best 54 = .ok (.iload_n 2, 1) := by decide +kernel
theorem dX9_best_55 : decode cX9_best 55 = .ok (.iconst 1, 1) := by decide +kernel
theorem dX9_best_56 : decode cX9_best 56 = .ok (.if_icmp .ne 13, 3) := by decide +kernel
theorem dX9_best_59 : decode cX9_best 59 = .ok (.aload_n 0, 1) := by decide +kernel
theorem dX9_best_60 : decode cX9_best 60 = .ok (.getfield 62, 3) := by decide +kernel
theorem dX9_best_63 : decode cX9_best 63 = .ok (.getfield 233, 3) := by decide +kernel
theorem dX9_best_66 : decode cX9_best 66 = .ok (.goto 10, 3) := by decide +kernel
theorem dX9_best_69 : decode cX9_best 69 = .ok (.aload_n 0, 1) := by decide +kernel
theorem dX9_best_70 : decode cX9_best 70 = .ok (.getfield 62, 3) := by decide +kernel
theorem dX9_best_73 : decode cX9_best 73 = .ok (.getfield 234, 3) := by decide +kernel
theorem dX9_best_76 : decode cX9_best 76 = .ok (.ireturn, 1) := by decide +kernel
theorem dX9_split_0 : decode cX9_split 0 = .ok (.aload_n 0, 1) := by decide +kernel
theorem dX9_split_1 : decode cX9_split 1 = .ok (.getfield 19, 3) := by decide +kernel
theorem dX9_split_4 : decode cX9_split 4 = .ok (.iload_n 1, 1) := by decide +kernel
theorem dX9_split_5 : decode cX9_split 5 = .ok (.invokevirtual 111, 3) := by decide +kernel
theorem dX9_split_8 : decode cX9_split 8 = .ok (.ifCond .eq 12, 3) := by decide +kernel
theorem dX9_split_11 : decode cX9_split 11 = .ok (.iload_n 2, 1) := by decide +kernel
theorem dX9_split_12 : decode cX9_split 12 = .ok (.ifCond .lt 8, 3) := by decide +kernel
theorem dX9_split_15 : decode cX9_split 15 = .ok (.iload_n 2, 1) := by decide +kernel
theorem dX9_split_16 : decode cX9_split 16 = .ok (.iconst 3, 1) := by decide +kernel
theorem dX9_split_17 : decode cX9_split 17 = .ok (.if_icmp .le 6, 3) := by decide +kernel
theorem dX9_split_20 : decode cX9_split 20 = .ok (.bipush (-2), 2) := by decide +kernel
theorem dX9_split_22 : decode cX9_split 22 = .ok (.ireturn, 1) := by decide +kernel
theorem dX9_split_23 : decode cX9_split 23 = .ok (.aload_n 0, 1) := by decide +kernel
theorem dX9_split_24 : decode cX9_split 24 = .ok (.getfield 19, 3) := by decide +kernel
theorem dX9_split_27 : decode cX9_split 27 = .ok (.getfield 115, 3) := by decide +kernel
theorem dX9_split_30 : decode cX9_split 30 = .ok (.iload_n 1, 1) := by decide +kernel
theorem dX9_split_31 : decode cX9_split 31 = .ok (.aaload, 1) := by decide +kernel
theorem dX9_split_32 : decode cX9_split 32 = .ok (.getfield 133, 3) := by decide +kernel
theorem dX9_split_35 : decode cX9_split 35 = .ok (.iconst 2, 1) := by decide +kernel
theorem dX9_split_36 : decode cX9_split 36 = .ok (.if_icmp .ge 5, 3) := by decide +kernel
theorem dX9_split_39 : decode cX9_split 39 = .ok (.iconst (-1), 1) := by decide +kernel
theorem dX9_split_40 : decode cX9_split 40 = .ok (.ireturn, 1) := by decide +kernel
theorem dX9_split_41 : decode cX9_split 41 = .ok (.aload_n 0, 1) := by decide +kernel
theorem dX9_split_42 : decode cX9_split 42 = .ok (.getfield 62, 3) := by decide +kernel
theorem dX9_split_45 : decode cX9_split 45 = .ok (.aload_n 0, 1) := by decide +kernel
theorem dX9_split_46 : decode cX9_split 46 = .ok (.getfield 19, 3) := by decide +kernel
theorem dX9_split_49 : decode cX9_split 49 = .ok (.invokevirtual 224, 3) := by decide +kernel
theorem dX9_split_52 : decode cX9_split 52 = .ok (.aload_n 0, 1) := by decide +kernel
theorem dX9_split_53 : decode cX9_split 53 = .ok (.getfield 62, 3) := by decide +kernel
theorem dX9_split_56 : decode cX9_split 56 = .ok (.iload_n 1, 1) := by decide +kernel
theorem dX9_split_57 : decode cX9_split 57 = .ok (.invokevirtual 235, 3) := by decide +kernel
theorem dX9_split_60 : decode cX9_split 60 = .ok (.iload_n 2, 1) := by decide +kernel
theorem dX9_split_61 : decode cX9_split 61 = .ok (.tableswitch 51 0 2 #[27, 35, 43], 27) := by decide +kernel
theorem dX9_split_88 : decode cX9_split 88 = .ok (.aload_n 0, 1) := by decide +kernel
theorem dX9_split_89 : decode cX9_split 89 = .ok (.getfield 62, 3) := by decide +kernel
theorem dX9_split_92 : decode cX9_split 92 = .ok (.getfield 238, 3) := by decide +kernel
theorem dX9_split_95 : decode cX9_split 95 = .ok (.ireturn, 1) := by decide +kernel
theorem dX9_split_96 : decode cX9_split 96 = .ok (.aload_n 0, 1) := by decide +kernel
theorem dX9_split_97 : decode cX9_split 97 = .ok (.getfield 62, 3) := by decide +kernel
theorem dX9_split_100 : decode cX9_split 100 = .ok (.getfield 241, 3) := by decide +kernel
theorem dX9_split_103 : decode cX9_split 103 = .ok (.ireturn, 1) := by decide +kernel
theorem dX9_split_104 : decode cX9_split 104 = .ok (.aload_n 0, 1) := by decide +kernel
theorem dX9_split_105 : decode cX9_split 105 = .ok (.getfield 62, 3) := by decide +kernel
theorem dX9_split_108 : decode cX9_split 108 = .ok (.getfield 244, 3) := by decide +kernel
theorem dX9_split_111 : decode cX9_split 111 = .ok (.ireturn, 1) := by decide +kernel
theorem dX9_split_112 : decode cX9_split 112 = .ok (.aload_n 0, 1) := by decide +kernel
theorem dX9_split_113 : decode cX9_split 113 = .ok (.getfield 62, 3) := by decide +kernel
theorem dX9_split_116 : decode cX9_split 116 = .ok (.getfield 247, 3) := by decide +kernel
theorem dX9_split_119 : decode cX9_split 119 = .ok (.ireturn, 1) := by decide +kernel
theorem dX9_rest_0 : decode cX9_rest 0 = .ok (.aload_n 0, 1) := by decide +kernel
theorem dX9_rest_1 : decode cX9_rest 1 = .ok (.getfield 19, 3) := by decide +kernel
theorem dX9_rest_4 : decode cX9_rest 4 = .ok (.invokevirtual 149, 3) := by decide +kernel
theorem dX9_rest_7 : decode cX9_rest 7 = .ok (.ifCond .ne 6, 3) := by decide +kernel
theorem dX9_rest_10 : decode cX9_rest 10 = .ok (.bipush (-2), 2) := by decide +kernel
theorem dX9_rest_12 : decode cX9_rest 12 = .ok (.ireturn, 1) := by decide +kernel
theorem dX9_rest_13 : decode cX9_rest 13 = .ok (.aload_n 0, 1) := by decide +kernel
theorem dX9_rest_14 : decode cX9_rest 14 = .ok (.getfield 62, 3) := by decide +kernel
theorem dX9_rest_17 : decode cX9_rest 17 = .ok (.aload_n 0, 1) := by decide +kernel
theorem dX9_rest_18 : decode cX9_rest 18 = .ok (.getfield 19, 3) := by decide +kernel
theorem dX9_rest_21 : decode cX9_rest 21 = .ok (.invokevirtual 224, 3) := by decide +kernel
theorem dX9_rest_24 : decode cX9_rest 24 = .ok (.aload_n 0, 1) := by decide +kernel
theorem dX9_rest_25 : decode cX9_rest 25 = .ok (.getfield 62, 3) := by decide +kernel
theorem dX9_rest_28 : decode cX9_rest 28 = .ok (.invokevirtual 250, 3) := by decide +kernel
theorem dX9_rest_31 : decode cX9_rest 31 = .ok (.ireturn, 1) := by decide +kernel
theorem dX9_rests_0 : decode cX9_rests 0 = .ok (.aload_n 0, 1) := by decide +kernel
theorem dX9_rests_1 : decode cX9_rests 1 = .ok (.getfield 19, 3) := by decide +kernel
theorem dX9_rests_4 : decode cX9_rests 4 = .ok (.invokevirtual 149, 3) := by decide +kernel
theorem dX9_rests_7 : decode cX9_rests 7 = .ok (.ifCond .eq 13, 3) := by decide +kernel
theorem dX9_rests_10 : decode cX9_rests 10 = .ok (.iload_n 1, 1) := by decide +kernel
theorem dX9_rests_11 : decode cX9_rests 11 = .ok (.ifCond .lt 9, 3) := by decide +kernel
theorem dX9_rests_14 : decode cX9_rests 14 = .ok (.iload_n 1, 1) := by decide +kernel
theorem dX9_rests_15 : decode cX9_rests 15 = .ok (.bipush 30, 2) := by decide +kernel
theorem dX9_rests_17 : decode cX9_rests 17 = .ok (.if_icmp .le 6, 3) := by decide +kernel
theorem dX9_rests_20 : decode cX9_rests 20 = .ok (.bipush (-2), 2) := by decide +kernel
theorem dX9_rests_22 : decode cX9_rests 22 = .ok (.ireturn, 1) := by decide +kernel
theorem dX9_rests_23 : decode cX9_rests 23 = .ok (.aload_n 0, 1) := by decide +kernel
theorem dX9_rests_24 : decode cX9_rests 24 = .ok (.getfield 62, 3) := by decide +kernel
theorem dX9_rests_27 : decode cX9_rests 27 = .ok (.aload_n 0, 1) := by decide +kernel
theorem dX9_rests_28 : decode cX9_rests 28 = .ok (.getfield 19, 3) := by decide +kernel
theorem dX9_rests_31 : decode cX9_rests 31 = .ok (.invokevirtual 224, 3) := by decide +kernel
theorem dX9_rests_34 : decode cX9_rests 34 = .ok (.aload_n 0, 1) := by decide +kernel
theorem dX9_rests_35 : decode cX9_rests 35 = .ok (.getfield 62, 3) := by decide +kernel
theorem dX9_rests_38 : decode cX9_rests 38 = .ok (.iload_n 1, 1) := by decide +kernel
theorem dX9_rests_39 : decode cX9_rests 39 = .ok (.invokevirtual 253, 3) := by decide +kernel
theorem dX9_rests_42 : decode cX9_rests 42 = .ok (.ireturn, 1) := by decide +kernel
theorem dX9_sent_0 : decode cX9_sent 0 = .ok (.aload_n 0, 1) := by decide +kernel
theorem dX9_sent_1 : decode cX9_sent 1 = .ok (.getfield 19, 3) := by decide +kernel
theorem dX9_sent_4 : decode cX9_sent 4 = .ok (.iload_n 1, 1) := by decide +kernel
theorem dX9_sent_5 : decode cX9_sent 5 = .ok (.invokevirtual 111, 3) := by decide +kernel
theorem dX9_sent_8 : decode cX9_sent 8 = .ok (.ifCond .eq 13, 3) := by decide +kernel
theorem dX9_sent_11 : decode cX9_sent 11 = .ok (.iload_n 2, 1) := by decide +kernel
theorem dX9_sent_12 : decode cX9_sent 12 = .ok (.ifCond .lt 9, 3) := by decide +kernel
theorem dX9_sent_15 : decode cX9_sent 15 = .ok (.iload_n 2, 1) := by decide +kernel
theorem dX9_sent_16 : decode cX9_sent 16 = .ok (.bipush 30, 2) := by decide +kernel
theorem dX9_sent_18 : decode cX9_sent 18 = .ok (.if_icmp .le 6, 3) := by decide +kernel
theorem dX9_sent_21 : decode cX9_sent 21 = .ok (.bipush (-2), 2) := by decide +kernel
theorem dX9_sent_23 : decode cX9_sent 23 = .ok (.ireturn, 1) := by decide +kernel
theorem dX9_sent_24 : decode cX9_sent 24 = .ok (.aload_n 0, 1) := by decide +kernel
theorem dX9_sent_25 : decode cX9_sent 25 = .ok (.getfield 62, 3) := by decide +kernel
theorem dX9_sent_28 : decode cX9_sent 28 = .ok (.aload_n 0, 1) := by decide +kernel
theorem dX9_sent_29 : decode cX9_sent 29 = .ok (.getfield 19, 3) := by decide +kernel
theorem dX9_sent_32 : decode cX9_sent 32 = .ok (.invokevirtual 224, 3) := by decide +kernel
theorem dX9_sent_35 : decode cX9_sent 35 = .ok (.aload_n 0, 1) := by decide +kernel
theorem dX9_sent_36 : decode cX9_sent 36 = .ok (.getfield 62, 3) := by decide +kernel
theorem dX9_sent_39 : decode cX9_sent 39 = .ok (.iload_n 2, 1) := by decide +kernel
theorem dX9_sent_40 : decode cX9_sent 40 = .ok (.invokevirtual 253, 3) := by decide +kernel
theorem dX9_sent_43 : decode cX9_sent 43 = .ok (.pop, 1) := by decide +kernel
theorem dX9_sent_44 : decode cX9_sent 44 = .ok (.aload_n 0, 1) := by decide +kernel
theorem dX9_sent_45 : decode cX9_sent 45 = .ok (.getfield 62, 3) := by decide +kernel
theorem dX9_sent_48 : decode cX9_sent 48 = .ok (.getfield 256, 3) := by decide +kernel
theorem dX9_sent_51 : decode cX9_sent 51 = .ok (.getfield 115, 3) := by decide +kernel
theorem dX9_sent_54 : decode cX9_sent 54 = .ok (.iload_n 1, 1) := by decide +kernel
theorem dX9_sent_55 : decode cX9_sent 55 = .ok (.aaload, 1) := by decide +kernel
theorem dX9_sent_56 : decode cX9_sent 56 = .ok (.invokevirtual 166, 3) := by decide +kernel
theorem dX9_sent_59 : decode cX9_sent 59 = .ok (.ireturn, 1) := by decide +kernel
theorem dX9_harm_0 : decode cX9_harm 0 = .ok (.aload_n 0, 1) := by decide +kernel
theorem dX9_harm_1 : decode cX9_harm 1 = .ok (.getfield 19, 3) := by decide +kernel
theorem dX9_harm_4 : decode cX9_harm 4 = .ok (.iload_n 1, 1) := by decide +kernel
theorem dX9_harm_5 : decode cX9_harm 5 = .ok (.invokevirtual 111, 3) := by decide +kernel
theorem dX9_harm_8 : decode cX9_harm 8 = .ok (.ifCond .ne 6, 3) := by decide +kernel
theorem dX9_harm_11 : decode cX9_harm 11 = .ok (.bipush (-2), 2) := by decide +kernel
theorem dX9_harm_13 : decode cX9_harm 13 = .ok (.ireturn, 1) := by decide +kernel
theorem dX9_harm_14 : decode cX9_harm 14 = .ok (.aload_n 0, 1) := by decide +kernel
theorem dX9_harm_15 : decode cX9_harm 15 = .ok (.getfield 19, 3) := by decide +kernel
theorem dX9_harm_18 : decode cX9_harm 18 = .ok (.getfield 115, 3) := by decide +kernel
theorem dX9_harm_21 : decode cX9_harm 21 = .ok (.iload_n 1, 1) := by decide +kernel
theorem dX9_harm_22 : decode cX9_harm 22 = .ok (.aaload, 1) := by decide +kernel
theorem dX9_harm_23 : decode cX9_harm 23 = .ok (.getfield 119, 3) := by decide +kernel
theorem dX9_harm_26 : decode cX9_harm 26 = .ok (.istore_n 2, 1) := by decide +kernel
theorem dX9_harm_27 : decode cX9_harm 27 = .ok (.aload_n 0, 1) := by decide +kernel
theorem dX9_harm_28 : decode cX9_harm 28 = .ok (.getfield 53, 3) := by decide +kernel
theorem dX9_harm_31 : decode cX9_harm 31 = .ok (.aload_n 0, 1) := by decide +kernel
theorem dX9_harm_32 : decode cX9_harm 32 = .ok (.getfield 19, 3) := by decide +kernel
theorem dX9_harm_35 : decode cX9_harm 35 = .ok (.iload_n 2, 1) := by decide +kernel
theorem dX9_harm_36 : decode cX9_harm 36 = .ok (.invokevirtual 259, 3) := by decide +kernel
theorem dX9_harm_39 : decode cX9_harm 39 = .ok (.istore_n 3, 1) := by decide +kernel
theorem dX9_harm_40 : decode cX9_harm 40 = .ok (.aload_n 0, 1) := by decide +kernel
theorem dX9_harm_41 : decode cX9_harm 41 = .ok (.getfield 62, 3) := by decide +kernel
theorem dX9_harm_44 : decode cX9_harm 44 = .ok (.aload_n 0, 1) := by decide +kernel
theorem dX9_harm_45 : decode cX9_harm 45 = .ok (.getfield 19, 3) := by decide +kernel
theorem dX9_harm_48 : decode cX9_harm 48 = .ok (.invokevirtual 224, 3) := by decide +kernel
theorem dX9_harm_51 : decode cX9_harm 51 = .ok (.aload_n 0, 1) := by decide +kernel
theorem dX9_harm_52 : decode cX9_harm 52 = .ok (.getfield 62, 3) := by decide +kernel
theorem dX9_harm_55 : decode cX9_harm 55 = .ok (.getfield 256, 3) := by decide +kernel
theorem dX9_harm_58 : decode cX9_harm 58 = .ok (.getfield 115, 3) := by decide +kernel
theorem dX9_harm_61 : decode cX9_harm 61 = .ok (.iload_n 1, 1) := by decide +kernel
theorem dX9_harm_62 : decode cX9_harm 62 = .ok (.aaload, 1) := by decide +kernel
theorem dX9_harm_63 : decode cX9_harm 63 = .ok (.iconst 0, 1) := by decide +kernel
theorem dX9_harm_64 : decode cX9_harm 64 = .ok (.putfield 133, 3) := by decide +kernel
theorem dX9_harm_67 : decode cX9_harm 67 = .ok (.aload_n 0, 1) := by decide +kernel
theorem dX9_harm_68 : decode cX9_harm 68 = .ok (.getfield 62, 3) := by decide +kernel
theorem dX9_harm_71 : decode cX9_harm 71 = .ok (.getfield 256, 3) := by decide +kernel
theorem dX9_harm_74 : decode cX9_harm 74 = .ok (.getfield 115, 3) := by decide +kernel
theorem dX9_harm_77 : decode cX9_harm 77 = .ok (.iload_n 1, 1) := by decide +kernel
theorem dX9_harm_78 : decode cX9_harm 78 = .ok (.aaload, 1) := by decide +kernel
theorem dX9_harm_79 : decode cX9_harm 79 = .ok (.iconst 0, 1) := by decide +kernel
theorem dX9_harm_80 : decode cX9_harm 80 = .ok (.putfield 136, 3) := by decide +kernel
theorem dX9_harm_83 : decode cX9_harm 83 = .ok (.iload_n 3, 1) := by decide +kernel
theorem dX9_harm_84 : decode cX9_harm 84 = .ok (.aload_n 0, 1) := by decide +kernel
theorem dX9_harm_85 : decode cX9_harm 85 = .ok (.getfield 53, 3) := by decide +kernel
theorem dX9_harm_88 : decode cX9_harm 88 = .ok (.aload_n 0, 1) := by decide +kernel
theorem dX9_harm_89 : decode cX9_harm 89 = .ok (.getfield 62, 3) := by decide +kernel
theorem dX9_harm_92 : decode cX9_harm 92 = .ok (.getfield 256, 3) := by decide +kernel
theorem dX9_harm_95 : decode cX9_harm 95 = .ok (.iload_n 2, 1) := by decide +kernel
theorem dX9_harm_96 : decode cX9_harm 96 = .ok (.invokevirtual 259, 3) := by decide +kernel
theorem dX9_harm_99 : decode cX9_harm 99 = .ok (.isub, 1) := by decide +kernel
theorem dX9_harm_100 : decode cX9_harm 100 = .ok (.ireturn, 1) := by decide +kernel
theorem dX9_ewe_0 : decode cX9_ewe 0 = .ok (.aload_n 0, 1) := by decide +kernel
theorem dX9_ewe_1 : decode cX9_ewe 1 = .ok (.getfield 19, 3) := by decide +kernel
theorem dX9_ewe_4 : decode cX9_ewe 4 = .ok (.iload_n 1, 1) := by decide +kernel
theorem dX9_ewe_5 : decode cX9_ewe 5 = .ok (.invokevirtual 204, 3) := by decide +kernel
theorem dX9_ewe_8 : decode cX9_ewe 8 = .ok (.ifCond .eq 33, 3) := by decide +kernel
theorem dX9_ewe_11 : decode cX9_ewe 11 = .ok (.aload_n 0, 1) := by decide +kernel
theorem dX9_ewe_12 : decode cX9_ewe 12 = .ok (.getfield 19, 3) := by decide +kernel
theorem dX9_ewe_15 : decode cX9_ewe 15 = .ok (.iload_n 2, 1) := by decide +kernel
theorem dX9_ewe_16 : decode cX9_ewe 16 = .ok (.invokevirtual 160, 3) := by decide +kernel
theorem dX9_ewe_19 : decode cX9_ewe 19 = .ok (.ifCond .eq 22, 3) := by decide +kernel
theorem dX9_ewe_22 : decode cX9_ewe 22 = .ok (.aload_n 0, 1) := by decide +kernel
theorem dX9_ewe_23 : decode cX9_ewe 23 = .ok (.getfield 19, 3) := by decide +kernel
theorem dX9_ewe_26 : decode cX9_ewe 26 = .ok (.iload_n 3, 1) := by decide +kernel
theorem dX9_ewe_27 : decode cX9_ewe 27 = .ok (.invokevirtual 170, 3) := by decide +kernel
theorem dX9_ewe_30 : decode cX9_ewe 30 = .ok (.ifCond .eq 11, 3) := by decide +kernel
theorem dX9_ewe_33 : decode cX9_ewe 33 = .ok (.iload 4, 2) := by decide +kernel
theorem dX9_ewe_35 : decode cX9_ewe 35 = .ok (.invokestatic 163, 3) := by decide +kernel
theorem dX9_ewe_38 : decode cX9_ewe 38 = .ok (.ifCond .ne 6, 3) := by decide +kernel
theorem dX9_ewe_41 : decode cX9_ewe 41 = .ok (.bipush (-2), 2) := by decide +kernel
theorem dX9_ewe_43 : decode cX9_ewe 43 = .ok (.ireturn, 1) := by decide +kernel
theorem dX9_ewe_44 : decode cX9_ewe 44 = .ok (.aload_n 0, 1) := by decide +kernel
theorem dX9_ewe_45 : decode cX9_ewe 45 = .ok (.getfield 62, 3) := by decide +kernel
theorem dX9_ewe_48 : decode cX9_ewe 48 = .ok (.aload_n 0, 1) := by decide +kernel
theorem dX9_ewe_49 : decode cX9_ewe 49 = .ok (.getfield 19, 3) := by decide +kernel
theorem dX9_ewe_52 : decode cX9_ewe 52 = .ok (.invokevirtual 224, 3) := by decide +kernel
theorem dX9_ewe_55 : decode cX9_ewe 55 = .ok (.aload_n 0, 1) := by decide +kernel
theorem dX9_ewe_56 : decode cX9_ewe 56 = .ok (.getfield 62, 3) := by decide +kernel
theorem dX9_ewe_59 : decode cX9_ewe 59 = .ok (.iload_n 1, 1) := by decide +kernel
theorem dX9_ewe_60 : decode cX9_ewe 60 = .ok (.iload_n 2, 1) := by decide +kernel
theorem dX9_ewe_61 : decode cX9_ewe 61 = .ok (.iload_n 3, 1) := by decide +kernel
theorem dX9_ewe_62 : decode cX9_ewe 62 = .ok (.invokevirtual 262, 3) := by decide +kernel
theorem dX9_ewe_65 : decode cX9_ewe 65 = .ok (.aload_n 0, 1) := by decide +kernel
theorem dX9_ewe_66 : decode cX9_ewe 66 = .ok (.getfield 62, 3) := by decide +kernel
theorem dX9_ewe_69 : decode cX9_ewe 69 = .ok (.iload 4, 2) := by decide +kernel
theorem dX9_ewe_71 : decode cX9_ewe 71 = .ok (.invokevirtual 266, 3) := by decide +kernel
theorem dX9_ewe_74 : decode cX9_ewe 74 = .ok (.ireturn, 1) := by decide +kernel
theorem dX9_waits_0 : decode cX9_waits 0 = .ok (.aload_n 0, 1) := by decide +kernel
theorem dX9_waits_1 : decode cX9_waits 1 = .ok (.getfield 19, 3) := by decide +kernel
theorem dX9_waits_4 : decode cX9_waits 4 = .ok (.iload_n 1, 1) := by decide +kernel
theorem dX9_waits_5 : decode cX9_waits 5 = .ok (.invokevirtual 204, 3) := by decide +kernel
theorem dX9_waits_8 : decode cX9_waits 8 = .ok (.ifCond .eq 36, 3) := by decide +kernel
theorem dX9_waits_11 : decode cX9_waits 11 = .ok (.aload_n 0, 1) := by decide +kernel
theorem dX9_waits_12 : decode cX9_waits 12 = .ok (.getfield 19, 3) := by decide +kernel
theorem dX9_waits_15 : decode cX9_waits 15 = .ok (.iload_n 2, 1) := by decide +kernel
theorem dX9_waits_16 : decode cX9_waits 16 = .ok (.invokevirtual 160, 3) := by decide +kernel
theorem dX9_waits_19 : decode cX9_waits 19 = .ok (.ifCond .eq 25, 3) := by decide +kernel
theorem dX9_waits_22 : decode cX9_waits 22 = .ok (.aload_n 0, 1) := by decide +kernel
theorem dX9_waits_23 : decode cX9_waits 23 = .ok (.getfield 19, 3) := by decide +kernel
theorem dX9_waits_26 : decode cX9_waits 26 = .ok (.iload_n 3, 1) := by decide +kernel
theorem dX9_waits_27 : decode cX9_waits 27 = .ok (.invokevirtual 170, 3) := by decide +kernel
theorem dX9_waits_30 : decode cX9_waits 30 = .ok (.ifCond .eq 14, 3) := by decide +kernel
theorem dX9_waits_33 : decode cX9_waits 33 = .ok (.iload 4, 2) := by decide +kernel
theorem dX9_waits_35 : decode cX9_waits 35 = .ok (.ifCond .lt 9, 3) := by decide +kernel
theorem dX9_waits_38 : decode cX9_waits 38 = .ok (.iload 4, 2) := by decide +kernel
theorem dX9_waits_40 : decode cX9_waits 40 = .ok (.iconst 1, 1) := by decide +kernel
theorem dX9_waits_41 : decode cX9_waits 41 = .ok (.if_icmp .le 6, 3) := by decide +kernel
theorem dX9_waits_44 : decode cX9_waits 44 = .ok (.bipush (-2), 2) := by decide +kernel
theorem dX9_waits_46 : decode cX9_waits 46 = .ok (.ireturn, 1) := by decide +kernel
theorem dX9_waits_47 : decode cX9_waits 47 = .ok (.aload_n 0, 1) := by decide +kernel
theorem dX9_waits_48 : decode cX9_waits 48 = .ok (.getfield 62, 3) := by decide +kernel
theorem dX9_waits_51 : decode cX9_waits 51 = .ok (.aload_n 0, 1) := by decide +kernel
theorem dX9_waits_52 : decode cX9_waits 52 = .ok (.getfield 19, 3) := by decide +kernel
theorem dX9_waits_55 : decode cX9_waits 55 = .ok (.invokevirtual 224, 3) := by decide +kernel
theorem dX9_waits_58 : decode cX9_waits 58 = .ok (.aload_n 0, 1) := by decide +kernel
theorem dX9_waits_59 : decode cX9_waits 59 = .ok (.getfield 62, 3) := by decide +kernel
theorem dX9_waits_62 : decode cX9_waits 62 = .ok (.iload_n 1, 1) := by decide +kernel
theorem dX9_waits_63 : decode cX9_waits 63 = .ok (.iload_n 2, 1) := by decide +kernel
theorem dX9_waits_64 : decode cX9_waits 64 = .ok (.iload_n 3, 1) := by decide +kernel
theorem dX9_waits_65 : decode cX9_waits 65 = .ok (.invokevirtual 262, 3) := by decide +kernel
theorem dX9_waits_68 : decode cX9_waits 68 = .ok (.iconst 0, 1) := by decide +kernel
theorem dX9_waits_69 : decode cX9_waits 69 = .ok (.istore 5, 2) := by decide +kernel
theorem dX9_waits_71 : decode cX9_waits 71 = .ok (.aload_n 0, 1) := by decide +kernel
theorem dX9_waits_72 : decode cX9_waits 72 = .ok (.getfield 62, 3) := by decide +kernel
theorem dX9_waits_75 : decode cX9_waits 75 = .ok (.iconst 0, 1) := by decide +kernel
theorem dX9_waits_76 : decode cX9_waits 76 = .ok (.invokevirtual 266, 3) := by decide +kernel
theorem dX9_waits_79 : decode cX9_waits 79 = .ok (.istore 6, 2) := by decide +kernel
theorem dX9_waits_81 : decode cX9_waits 81 = .ok (.iconst 1, 1) := by decide +kernel
theorem dX9_waits_82 : decode cX9_waits 82 = .ok (.istore 7, 2) := by decide +kernel
theorem dX9_waits_84 : decode cX9_waits 84 = .ok (.iload 7, 2) := by decide +kernel
theorem dX9_waits_86 : decode cX9_waits 86 = .ok (.bipush 24, 2) := by decide +kernel
theorem dX9_waits_88 : decode cX9_waits 88 = .ok (.if_icmp .ge 35, 3) := by decide +kernel
theorem dX9_waits_91 : decode cX9_waits 91 = .ok (.aload_n 0, 1) := by decide +kernel
theorem dX9_waits_92 : decode cX9_waits 92 = .ok (.getfield 62, 3) := by decide +kernel
theorem dX9_waits_95 : decode cX9_waits 95 = .ok (.iload 7, 2) := by decide +kernel
theorem dX9_waits_97 : decode cX9_waits 97 = .ok (.invokevirtual 266, 3) := by decide +kernel
theorem dX9_waits_100 : decode cX9_waits 100 = .ok (.istore 8, 2) := by decide +kernel
theorem dX9_waits_102 : decode cX9_waits 102 = .ok (.iload 8, 2) := by decide +kernel
theorem dX9_waits_104 : decode cX9_waits 104 = .ok (.iload 6, 2) := by decide +kernel
theorem dX9_waits_106 : decode cX9_waits 106 = .ok (.if_icmp .le 11, 3) := by decide +kernel
theorem dX9_waits_109 : decode cX9_waits 109 = .ok (.iload 8, 2) := by decide +kernel
theorem dX9_waits_111 : decode cX9_waits 111 = .ok (.istore 6, 2) := by decide +kernel
theorem dX9_waits_113 : decode cX9_waits 113 = .ok (.iload 7, 2) := by decide +kernel
theorem dX9_waits_115 : decode cX9_waits 115 = .ok (.istore 5, 2) := by decide +kernel
theorem dX9_waits_117 : decode cX9_waits 117 = .ok (.iinc 7 1, 3) := by decide +kernel
theorem dX9_waits_120 : decode cX9_waits 120 = .ok (.goto (-36), 3) := by decide +kernel
theorem dX9_waits_123 : decode cX9_waits 123 = .ok (.iload 4, 2) := by decide +kernel
theorem dX9_waits_125 : decode cX9_waits 125 = .ok (.ifCond .ne 8, 3) := by decide +kernel
theorem dX9_waits_128 : decode cX9_waits 128 = .ok (.iload 5, 2) := by decide +kernel
theorem dX9_waits_130 : decode cX9_waits 130 = .ok (.goto 5, 3) := by decide +kernel
theorem dX9_waits_133 : decode cX9_waits 133 = .ok (.iload 6, 2) := by decide +kernel
theorem dX9_waits_135 : decode cX9_waits 135 = .ok (.ireturn, 1) := by decide +kernel
theorem dX9_ring_0 : decode cX9_ring 0 = .ok (.aload_n 0, 1) := by decide +kernel
theorem dX9_ring_1 : decode cX9_ring 1 = .ok (.iload_n 1, 1) := by decide +kernel
theorem dX9_ring_2 : decode cX9_ring 2 = .ok (.iload_n 2, 1) := by decide +kernel
theorem dX9_ring_3 : decode cX9_ring 3 = .ok (.invokevirtual 269, 3) := by decide +kernel
theorem dX9_ring_6 : decode cX9_ring 6 = .ok (.ifCond .eq 13, 3) := by decide +kernel
theorem dX9_ring_9 : decode cX9_ring 9 = .ok (.iload_n 3, 1) := by decide +kernel
theorem dX9_ring_10 : decode cX9_ring 10 = .ok (.ifCond .lt 9, 3) := by decide +kernel
theorem dX9_ring_13 : decode cX9_ring 13 = .ok (.iload_n 3, 1) := by decide +kernel
theorem dX9_ring_14 : decode cX9_ring 14 = .ok (.bipush 99, 2) := by decide +kernel
theorem dX9_ring_16 : decode cX9_ring 16 = .ok (.if_icmp .le 6, 3) := by decide +kernel
theorem dX9_ring_19 : decode cX9_ring 19 = .ok (.bipush (-2), 2) := by decide +kernel
theorem dX9_ring_21 : decode cX9_ring 21 = .ok (.ireturn, 1) := by decide +kernel
theorem dX9_ring_22 : decode cX9_ring 22 = .ok (.aload_n 0, 1) := by decide +kernel
theorem dX9_ring_23 : decode cX9_ring 23 = .ok (.getfield 53, 3) := by decide +kernel
theorem dX9_ring_26 : decode cX9_ring 26 = .ok (.aload_n 0, 1) := by decide +kernel
theorem dX9_ring_27 : decode cX9_ring 27 = .ok (.getfield 19, 3) := by decide +kernel
theorem dX9_ring_30 : decode cX9_ring 30 = .ok (.invokevirtual 272, 3) := by decide +kernel
theorem dX9_ring_33 : decode cX9_ring 33 = .ok (.aload_n 0, 1) := by decide +kernel
theorem dX9_ring_34 : decode cX9_ring 34 = .ok (.getfield 53, 3) := by decide +kernel
theorem dX9_ring_37 : decode cX9_ring 37 = .ok (.aload_n 0, 1) := by decide +kernel
theorem dX9_ring_38 : decode cX9_ring 38 = .ok (.getfield 19, 3) := by decide +kernel
theorem dX9_ring_41 : decode cX9_ring 41 = .ok (.iload_n 1, 1) := by decide +kernel
theorem dX9_ring_42 : decode cX9_ring 42 = .ok (.invokevirtual 180, 3) := by decide +kernel
theorem dX9_ring_45 : decode cX9_ring 45 = .ok (.aload_n 0, 1) := by decide +kernel
theorem dX9_ring_46 : decode cX9_ring 46 = .ok (.getfield 19, 3) := by decide +kernel
theorem dX9_ring_49 : decode cX9_ring 49 = .ok (.getfield 156, 3) := by decide +kernel
theorem dX9_ring_52 : decode cX9_ring 52 = .ok (.iconst 3, 1) := by decide +kernel
theorem dX9_ring_53 : decode cX9_ring 53 = .ok (.iaload, 1) := by decide +kernel
theorem dX9_ring_54 : decode cX9_ring 54 = .ok (.iload_n 2, 1) := by decide +kernel
theorem dX9_ring_55 : decode cX9_ring 55 = .ok (.iload_n 3, 1) := by decide +kernel
theorem dX9_ring_56 : decode cX9_ring 56 = .ok (.imul, 1) := by decide +kernel
theorem dX9_ring_57 : decode cX9_ring 57 = .ok (.invokevirtual 275, 3) := by decide +kernel
theorem dX9_ring_60 : decode cX9_ring 60 = .ok (.ireturn, 1) := by decide +kernel
theorem dX9_rounds_0 : decode cX9_rounds 0 = .ok (.aload_n 0, 1) := by decide +kernel
theorem dX9_rounds_1 : decode cX9_rounds 1 = .ok (.iload_n 1, 1) := by decide +kernel
theorem dX9_rounds_2 : decode cX9_rounds 2 = .ok (.iload_n 2, 1) := by decide +kernel
theorem dX9_rounds_3 : decode cX9_rounds 3 = .ok (.invokevirtual 269, 3) := by decide +kernel
theorem dX9_rounds_6 : decode cX9_rounds 6 = .ok (.ifCond .ne 6, 3) := by decide +kernel
theorem dX9_rounds_9 : decode cX9_rounds 9 = .ok (.bipush (-2), 2) := by decide +kernel
theorem dX9_rounds_11 : decode cX9_rounds 11 = .ok (.ireturn, 1) := by decide +kernel
theorem dX9_rounds_12 : decode cX9_rounds 12 = .ok (.aload_n 0, 1) := by decide +kernel
theorem dX9_rounds_13 : decode cX9_rounds 13 = .ok (.getfield 53, 3) := by decide +kernel
theorem dX9_rounds_16 : decode cX9_rounds 16 = .ok (.aload_n 0, 1) := by decide +kernel
theorem dX9_rounds_17 : decode cX9_rounds 17 = .ok (.getfield 19, 3) := by decide +kernel
theorem dX9_rounds_20 : decode cX9_rounds 20 = .ok (.iload_n 1, 1) := by decide +kernel
theorem dX9_rounds_21 : decode cX9_rounds 21 = .ok (.invokevirtual 221, 3) := by decide +kernel
theorem dX9_rounds_24 : decode cX9_rounds 24 = .ok (.istore_n 3, 1) := by decide +kernel
theorem dX9_rounds_25 : decode cX9_rounds 25 = .ok (.aload_n 0, 1) := by decide +kernel
theorem dX9_rounds_26 : decode cX9_rounds 26 = .ok (.getfield 19, 3) := by decide +kernel
theorem dX9_rounds_29 : decode cX9_rounds 29 = .ok (.getfield 156, 3) := by decide +kernel
theorem dX9_rounds_32 : decode cX9_rounds 32 = .ok (.iconst 3, 1) := by decide +kernel
theorem dX9_rounds_33 : decode cX9_rounds 33 = .ok (.iaload, 1) := by decide +kernel
theorem dX9_rounds_34 : decode cX9_rounds 34 = .ok (.istore 4, 2) := by decide +kernel
theorem dX9_rounds_36 : decode cX9_rounds 36 = .ok (.iconst 1, 1) := by decide +kernel
theorem dX9_rounds_37 : decode cX9_rounds 37 = .ok (.istore 5, 2) := by decide +kernel
theorem dX9_rounds_39 : decode cX9_rounds 39 = .ok (.iload 5, 2) := by decide +kernel
theorem dX9_rounds_41 : decode cX9_rounds 41 = .ok (.iload 4, 2) := by decide +kernel
theorem dX9_rounds_43 : decode cX9_rounds 43 = .ok (.if_icmp .gt 32, 3) := by decide +kernel
theorem dX9_rounds_46 : decode cX9_rounds 46 = .ok (.iload 5, 2) := by decide +kernel
theorem dX9_rounds_48 : decode cX9_rounds 48 = .ok (.iload_n 2, 1) := by decide +kernel
theorem dX9_rounds_49 : decode cX9_rounds 49 = .ok (.imul, 1) := by decide +kernel
theorem dX9_rounds_50 : decode cX9_rounds 50 = .ok (.iload_n 3, 1) := by decide +kernel
theorem dX9_rounds_51 : decode cX9_rounds 51 = .ok (.if_icmp .lt 18, 3) := by decide +kernel
theorem dX9_rounds_54 : decode cX9_rounds 54 = .ok (.iload 5, 2) := by decide +kernel
theorem dX9_rounds_56 : decode cX9_rounds 56 = .ok (.iload_n 2, 1) := by decide +kernel
theorem dX9_rounds_57 : decode cX9_rounds 57 = .ok (.imul, 1) := by decide +kernel
theorem dX9_rounds_58 : decode cX9_rounds 58 = .ok (.iload_n 3, 1) := by decide +kernel
theorem dX9_rounds_59 : decode cX9_rounds 59 = .ok (.isub, 1) := by decide +kernel
theorem dX9_rounds_60 : decode cX9_rounds 60 = .ok (.iload 4, 2) := by decide +kernel
theorem dX9_rounds_62 : decode cX9_rounds 62 = .ok (.irem, 1) := by decide +kernel
theorem dX9_rounds_63 : decode cX9_rounds 63 = .ok (.ifCond .ne 6, 3) := by decide +kernel
theorem dX9_rounds_66 : decode cX9_rounds 66 = .ok (.iload 5, 2) := by decide +kernel
theorem dX9_rounds_68 : decode cX9_rounds 68 = .ok (.ireturn, 1) := by decide +kernel
theorem dX9_rounds_69 : decode cX9_rounds 69 = .ok (.iinc 5 1, 3) := by decide +kernel
theorem dX9_rounds_72 : decode cX9_rounds 72 = .ok (.goto (-33), 3) := by decide +kernel
theorem dX9_rounds_75 : decode cX9_rounds 75 = .ok (.iconst (-1), 1) := by decide +kernel
theorem dX9_rounds_76 : decode cX9_rounds 76 = .ok (.ireturn, 1) := by decide +kernel
theorem dX9_isRing_0 : decode cX9_isRing 0 = .ok (.aload_n 0, 1) := by decide +kernel
theorem dX9_isRing_1 : decode cX9_isRing 1 = .ok (.getfield 19, 3) := by decide +kernel
theorem dX9_isRing_4 : decode cX9_isRing 4 = .ok (.iload_n 1, 1) := by decide +kernel
theorem dX9_isRing_5 : decode cX9_isRing 5 = .ok (.invokevirtual 160, 3) := by decide +kernel
theorem dX9_isRing_8 : decode cX9_isRing 8 = .ok (.ifCond .eq 19, 3) := by decide +kernel
theorem dX9_isRing_11 : decode cX9_isRing 11 = .ok (.iload_n 2, 1) := by decide +kernel
theorem dX9_isRing_12 : decode cX9_isRing 12 = .ok (.iconst 1, 1) := by decide +kernel
theorem dX9_isRing_13 : decode cX9_isRing 13 = .ok (.if_icmp .lt 14, 3) := by decide +kernel
theorem dX9_isRing_16 : decode cX9_isRing 16 = .ok (.iload_n 2, 1) := by decide +kernel
theorem dX9_isRing_17 : decode cX9_isRing 17 = .ok (.sipush 999, 3) := by decide +kernel
theorem dX9_isRing_20 : decode cX9_isRing 20 = .ok (.if_icmp .gt 7, 3) := by decide +kernel
theorem dX9_isRing_23 : decode cX9_isRing 23 = .ok (.iconst 1, 1) := by decide +kernel
theorem dX9_isRing_24 : decode cX9_isRing 24 = .ok (.goto 4, 3) := by decide +kernel
theorem dX9_isRing_27 : decode cX9_isRing 27 = .ok (.iconst 0, 1) := by decide +kernel
theorem dX9_isRing_28 : decode cX9_isRing 28 = .ok (.ireturn, 1) := by decide +kernel
theorem dX9_orders_0 : decode cX9_orders 0 = .ok (.aload_n 0, 1) := by decide +kernel
theorem dX9_orders_1 : decode cX9_orders 1 = .ok (.iload_n 1, 1) := by decide +kernel
theorem dX9_orders_2 : decode cX9_orders 2 = .ok (.iload_n 2, 1) := by decide +kernel
theorem dX9_orders_3 : decode cX9_orders 3 = .ok (.iload_n 3, 1) := by decide +kernel
theorem dX9_orders_4 : decode cX9_orders 4 = .ok (.invokevirtual 279, 3) := by decide +kernel
theorem dX9_orders_7 : decode cX9_orders 7 = .ok (.istore 4, 2) := by decide +kernel
theorem dX9_orders_9 : decode cX9_orders 9 = .ok (.iload 4, 2) := by decide +kernel
theorem dX9_orders_11 : decode cX9_orders 11 = .ok (.ifCond .eq 8, 3) := by decide +kernel
theorem dX9_orders_14 : decode cX9_orders 14 = .ok (.iload 4, 2) := by decide +kernel
theorem dX9_orders_16 : decode cX9_orders 16 = .ok (.goto 10, 3) := by decide +kernel
theorem dX9_orders_19 : decode cX9_orders 19 = .ok (.aload_n 0, 1) := by decide +kernel
theorem dX9_orders_20 : decode cX9_orders 20 = .ok (.getfield 69, 3) := by decide +kernel
theorem dX9_orders_23 : decode cX9_orders 23 = .ok (.getfield 282, 3) := by decide +kernel
theorem dX9_orders_26 : decode cX9_orders 26 = .ok (.ireturn, 1) := by decide +kernel
theorem dX9_order_0 : decode cX9_order 0 = .ok (.aload_n 0, 1) := by decide +kernel
theorem dX9_order_1 : decode cX9_order 1 = .ok (.iload_n 1, 1) := by decide +kernel
theorem dX9_order_2 : decode cX9_order 2 = .ok (.iload_n 2, 1) := by decide +kernel
theorem dX9_order_3 : decode cX9_order 3 = .ok (.iload_n 3, 1) := by decide +kernel
theorem dX9_order_4 : decode cX9_order 4 = .ok (.invokevirtual 279, 3) := by decide +kernel
theorem dX9_order_7 : decode cX9_order 7 = .ok (.istore 5, 2) := by decide +kernel
theorem dX9_order_9 : decode cX9_order 9 = .ok (.iload 5, 2) := by decide +kernel
theorem dX9_order_11 : decode cX9_order 11 = .ok (.ifCond .eq 6, 3) := by decide +kernel
theorem dX9_order_14 : decode cX9_order 14 = .ok (.iload 5, 2) := by decide +kernel
theorem dX9_order_16 : decode cX9_order 16 = .ok (.ireturn, 1) := by decide +kernel
theorem dX9_order_17 : decode cX9_order 17 = .ok (.aload_n 0, 1) := by decide +kernel
theorem dX9_order_18 : decode cX9_order 18 = .ok (.getfield 69, 3) := by decide +kernel
theorem dX9_order_21 : decode cX9_order 21 = .ok (.getfield 282, 3) := by decide +kernel
theorem dX9_order_24 : decode cX9_order 24 = .ok (.ifCond .eq 20, 3) := by decide +kernel
theorem dX9_order_27 : decode cX9_order 27 = .ok (.iload 4, 2) := by decide +kernel
theorem dX9_order_29 : decode cX9_order 29 = .ok (.ifCond .lt 15, 3) := by decide +kernel
theorem dX9_order_32 : decode cX9_order 32 = .ok (.iload 4, 2) := by decide +kernel
theorem dX9_order_34 : decode cX9_order 34 = .ok (.aload_n 0, 1) := by decide +kernel
theorem dX9_order_35 : decode cX9_order 35 = .ok (.getfield 69, 3) := by decide +kernel
theorem dX9_order_38 : decode cX9_order 38 = .ok (.getfield 285, 3) := by decide +kernel
theorem dX9_order_41 : decode cX9_order 41 = .ok (.if_icmp .lt 5, 3) := by decide +kernel
theorem dX9_order_44 : decode cX9_order 44 = .ok (.iconst (-1), 1) := by decide +kernel
theorem dX9_order_45 : decode cX9_order 45 = .ok (.ireturn, 1) := by decide +kernel
theorem dX9_order_46 : decode cX9_order 46 = .ok (.aload_n 0, 1) := by decide +kernel
theorem dX9_order_47 : decode cX9_order 47 = .ok (.getfield 69, 3) := by decide +kernel
theorem dX9_order_50 : decode cX9_order 50 = .ok (.getfield 288, 3) := by decide +kernel
theorem dX9_order_53 : decode cX9_order 53 = .ok (.iload 4, 2) := by decide +kernel
theorem dX9_order_55 : decode cX9_order 55 = .ok (.iaload, 1) := by decide +kernel
theorem dX9_order_56 : decode cX9_order 56 = .ok (.ireturn, 1) := by decide +kernel
theorem dX9_sure_0 : decode cX9_sure 0 = .ok (.aload_n 0, 1) := by decide +kernel
theorem dX9_sure_1 : decode cX9_sure 1 = .ok (.getfield 19, 3) := by decide +kernel
theorem dX9_sure_4 : decode cX9_sure 4 = .ok (.iload 4, 2) := by decide +kernel
theorem dX9_sure_6 : decode cX9_sure 6 = .ok (.invokevirtual 111, 3) := by decide +kernel
theorem dX9_sure_9 : decode cX9_sure 9 = .ok (.ifCond .ne 6, 3) := by decide +kernel
theorem dX9_sure_12 : decode cX9_sure 12 = .ok (.bipush (-2), 2) := by decide +kernel
theorem dX9_sure_14 : decode cX9_sure 14 = .ok (.ireturn, 1) := by decide +kernel
theorem dX9_sure_15 : decode cX9_sure 15 = .ok (.aload_n 0, 1) := by decide +kernel
theorem dX9_sure_16 : decode cX9_sure 16 = .ok (.iload_n 1, 1) := by decide +kernel
theorem dX9_sure_17 : decode cX9_sure 17 = .ok (.iload_n 2, 1) := by decide +kernel
theorem dX9_sure_18 : decode cX9_sure 18 = .ok (.iload_n 3, 1) := by decide +kernel
theorem dX9_sure_19 : decode cX9_sure 19 = .ok (.invokevirtual 279, 3) := by decide +kernel
theorem dX9_sure_22 : decode cX9_sure 22 = .ok (.istore 5, 2) := by decide +kernel
theorem dX9_sure_24 : decode cX9_sure 24 = .ok (.iload 5, 2) := by decide +kernel
theorem dX9_sure_26 : decode cX9_sure 26 = .ok (.ifCond .eq 8, 3) := by decide +kernel
theorem dX9_sure_29 : decode cX9_sure 29 = .ok (.iload 5, 2) := by decide +kernel
theorem dX9_sure_31 : decode cX9_sure 31 = .ok (.goto 13, 3) := by decide +kernel
theorem dX9_sure_34 : decode cX9_sure 34 = .ok (.aload_n 0, 1) := by decide +kernel
theorem dX9_sure_35 : decode cX9_sure 35 = .ok (.getfield 69, 3) := by decide +kernel
theorem dX9_sure_38 : decode cX9_sure 38 = .ok (.getfield 291, 3) := by decide +kernel
theorem dX9_sure_41 : decode cX9_sure 41 = .ok (.iload 4, 2) := by decide +kernel
theorem dX9_sure_43 : decode cX9_sure 43 = .ok (.iaload, 1) := by decide +kernel
theorem dX9_sure_44 : decode cX9_sure 44 = .ok (.ireturn, 1) := by decide +kernel
theorem dX9_explain_0 : decode cX9_explain 0 = .ok (.iload_n 1, 1) := by decide +kernel
theorem dX9_explain_1 : decode cX9_explain 1 = .ok (.invokestatic 294, 3) := by decide +kernel
theorem dX9_explain_4 : decode cX9_explain 4 = .ok (.ifCond .eq 25, 3) := by decide +kernel
theorem dX9_explain_7 : decode cX9_explain 7 = .ok (.aload_n 0, 1) := by decide +kernel
theorem dX9_explain_8 : decode cX9_explain 8 = .ok (.getfield 19, 3) := by decide +kernel
theorem dX9_explain_11 : decode cX9_explain 11 = .ok (.iload_n 2, 1) := by decide +kernel
theorem dX9_explain_12 : decode cX9_explain 12 = .ok (.invokevirtual 160, 3) := by decide +kernel
theorem dX9_explain_15 : decode cX9_explain 15 = .ok (.ifCond .eq 14, 3) := by decide +kernel
theorem dX9_explain_18 : decode cX9_explain 18 = .ok (.aload_n 0, 1) := by decide +kernel
theorem dX9_explain_19 : decode cX9_explain 19 = .ok (.getfield 19, 3) := by decide +kernel
theorem dX9_explain_22 : decode cX9_explain 22 = .ok (.iload_n 3, 1) := by decide +kernel
theorem dX9_explain_23 : decode cX9_explain 23 = .ok (.invokevirtual 170, 3) := by decide +kernel
theorem dX9_explain_26 : decode cX9_explain 26 = .ok (.ifCond .ne 6, 3) := by decide +kernel
theorem dX9_explain_29 : decode cX9_explain 29 = .ok (.bipush (-2), 2) := by decide +kernel
theorem dX9_explain_31 : decode cX9_explain 31 = .ok (.ireturn, 1) := by decide +kernel
theorem dX9_explain_32 : decode cX9_explain 32 = .ok (.aload_n 0, 1) := by decide +kernel
theorem dX9_explain_33 : decode cX9_explain 33 = .ok (.getfield 46, 3) := by decide +kernel
theorem dX9_explain_36 : decode cX9_explain 36 = .ok (.iload_n 1, 1) := by decide +kernel
theorem dX9_explain_37 : decode cX9_explain 37 = .ok (.invokevirtual 297, 3) := by decide +kernel
theorem dX9_explain_40 : decode cX9_explain 40 = .ok (.ifCond .ne 6, 3) := by decide +kernel
theorem dX9_explain_43 : decode cX9_explain 43 = .ok (.bipush (-6), 2) := by decide +kernel
theorem dX9_explain_45 : decode cX9_explain 45 = .ok (.ireturn, 1) := by decide +kernel
theorem dX9_explain_46 : decode cX9_explain 46 = .ok (.aload_n 0, 1) := by decide +kernel
theorem dX9_explain_47 : decode cX9_explain 47 = .ok (.getfield 69, 3) := by decide +kernel
theorem dX9_explain_50 : decode cX9_explain 50 = .ok (.aload_n 0, 1) := by decide +kernel
theorem dX9_explain_51 : decode cX9_explain 51 = .ok (.getfield 19, 3) := by decide +kernel
theorem dX9_explain_54 : decode cX9_explain 54 = .ok (.iload_n 2, 1) := by decide +kernel
theorem dX9_explain_55 : decode cX9_explain 55 = .ok (.iload_n 3, 1) := by decide +kernel
theorem dX9_explain_56 : decode cX9_explain 56 = .ok (.invokevirtual 300, 3) := by decide +kernel
theorem dX9_explain_59 : decode cX9_explain 59 = .ok (.bipush 6, 2) := by decide +kernel
theorem dX9_explain_61 : decode cX9_explain 61 = .ok (.if_icmp .le 6, 3) := by decide +kernel
theorem dX9_explain_64 : decode cX9_explain 64 = .ok (.bipush (-3), 2) := by decide +kernel
theorem dX9_explain_66 : decode cX9_explain 66 = .ok (.ireturn, 1) := by decide +kernel
theorem dX9_explain_67 : decode cX9_explain 67 = .ok (.aload_n 0, 1) := by decide +kernel
theorem dX9_explain_68 : decode cX9_explain 68 = .ok (.getfield 46, 3) := by decide +kernel
theorem dX9_explain_71 : decode cX9_explain 71 = .ok (.iload_n 1, 1) := by decide +kernel
theorem dX9_explain_72 : decode cX9_explain 72 = .ok (.aload_n 0, 1) := by decide +kernel
theorem dX9_explain_73 : decode cX9_explain 73 = .ok (.getfield 19, 3) := by decide +kernel
theorem dX9_explain_76 : decode cX9_explain 76 = .ok (.getfield 215, 3) := by decide +kernel
theorem dX9_explain_79 : decode cX9_explain 79 = .ok (.iconst 1, 1) := by decide +kernel
theorem dX9_explain_80 : decode cX9_explain 80 = .ok (.isub, 1) := by decide +kernel
theorem dX9_explain_81 : decode cX9_explain 81 = .ok (.invokevirtual 303, 3) := by decide +kernel
theorem dX9_explain_84 : decode cX9_explain 84 = .ok (.ifCond .ne 6, 3) := by decide +kernel
theorem dX9_explain_87 : decode cX9_explain 87 = .ok (.bipush (-2), 2) := by decide +kernel
theorem dX9_explain_89 : decode cX9_explain 89 = .ok (.ireturn, 1) := by decide +kernel
theorem dX9_explain_90 : decode cX9_explain 90 = .ok (.aload_n 0, 1) := by decide +kernel
theorem dX9_explain_91 : decode cX9_explain 91 = .ok (.getfield 69, 3) := by decide +kernel
theorem dX9_explain_94 : decode cX9_explain 94 = .ok (.aload_n 0, 1) := by decide +kernel
theorem dX9_explain_95 : decode cX9_explain 95 = .ok (.getfield 19, 3) := by decide +kernel
theorem dX9_explain_98 : decode cX9_explain 98 = .ok (.iload_n 2, 1) := by decide +kernel
theorem dX9_explain_99 : decode cX9_explain 99 = .ok (.iload_n 3, 1) := by decide +kernel
theorem dX9_explain_100 : decode cX9_explain 100 = .ok (.aload_n 0, 1) := by decide +kernel
theorem dX9_explain_101 : decode cX9_explain 101 = .ok (.getfield 46, 3) := by decide +kernel
theorem dX9_explain_104 : decode cX9_explain 104 = .ok (.iload_n 1, 1) := by decide +kernel
theorem dX9_explain_105 : decode cX9_explain 105 = .ok (.invokevirtual 306, 3) := by decide +kernel
theorem dX9_explain_108 : decode cX9_explain 108 = .ok (.iconst 0, 1) := by decide +kernel
theorem dX9_explain_109 : decode cX9_explain 109 = .ok (.ireturn, 1) := by decide +kernel
theorem dX9_wrong_0 : decode cX9_wrong 0 = .ok (.aload_n 0, 1) := by decide +kernel
theorem dX9_wrong_1 : decode cX9_wrong 1 = .ok (.iload_n 1, 1) := by decide +kernel
theorem dX9_wrong_2 : decode cX9_wrong 2 = .ok (.iload_n 2, 1) := by decide +kernel
theorem dX9_wrong_3 : decode cX9_wrong 3 = .ok (.invokevirtual 310, 3) := by decide +kernel
theorem dX9_wrong_6 : decode cX9_wrong 6 = .ok (.istore_n 3, 1) := by decide +kernel
theorem dX9_wrong_7 : decode cX9_wrong 7 = .ok (.iload_n 3, 1) := by decide +kernel
theorem dX9_wrong_8 : decode cX9_wrong 8 = .ok (.ifCond .eq 5, 3) := by decide +kernel
theorem dX9_wrong_11 : decode cX9_wrong 11 = .ok (.iload_n 3, 1) := by decide +kernel
theorem dX9_wrong_12 : decode cX9_wrong 12 = .ok (.ireturn, 1) := by decide +kernel
theorem dX9_wrong_13 : decode cX9_wrong 13 = .ok (.iconst 0, 1) := by decide +kernel
theorem dX9_wrong_14 : decode cX9_wrong 14 = .ok (.istore 4, 2) := by decide +kernel
theorem dX9_wrong_16 : decode cX9_wrong 16 = .ok (.iconst 0, 1) := by decide +kernel
theorem dX9_wrong_17 : decode cX9_wrong 17 = .ok (.istore 5, 2) := by decide +kernel
theorem dX9_wrong_19 : decode cX9_wrong 19 = .ok (.iload 5, 2) := by decide +kernel
theorem dX9_wrong_21 : decode cX9_wrong 21 = .ok (.aload_n 0, 1) := by decide +kernel
theorem dX9_wrong_22 : decode cX9_wrong 22 = .ok (.getfield 19, 3) := by decide +kernel
theorem dX9_wrong_25 : decode cX9_wrong 25 = .ok (.getfield 313, 3) := by decide +kernel
theorem dX9_wrong_28 : decode cX9_wrong 28 = .ok (.if_icmp .ge 39, 3) := by decide +kernel
theorem dX9_wrong_31 : decode cX9_wrong 31 = .ok (.aload_n 0, 1) := by decide +kernel
theorem dX9_wrong_32 : decode cX9_wrong 32 = .ok (.getfield 46, 3) := by decide +kernel
theorem dX9_wrong_35 : decode cX9_wrong 35 = .ok (.getfield 316, 3) := by decide +kernel
theorem dX9_wrong_38 : decode cX9_wrong 38 = .ok (.iload_n 1, 1) := by decide +kernel
theorem dX9_wrong_39 : decode cX9_wrong 39 = .ok (.aaload, 1) := by decide +kernel
theorem dX9_wrong_40 : decode cX9_wrong 40 = .ok (.iload 5, 2) := by decide +kernel
theorem dX9_wrong_42 : decode cX9_wrong 42 = .ok (.laload, 1) := by decide +kernel
theorem dX9_wrong_43 : decode cX9_wrong 43 = .ok (.aload_n 0, 1) := by decide +kernel
theorem dX9_wrong_44 : decode cX9_wrong 44 = .ok (.getfield 19, 3) := by decide +kernel
theorem dX9_wrong_47 : decode cX9_wrong 47 = .ok (.iload 5, 2) := by decide +kernel
theorem dX9_wrong_49 : decode cX9_wrong 49 = .ok (.iload_n 2, 1) := by decide +kernel
theorem dX9_wrong_50 : decode cX9_wrong 50 = .ok (.invokevirtual 183, 3) := by decide +kernel
theorem dX9_wrong_53 : decode cX9_wrong 53 = .ok (.i2l, 1) := by decide +kernel
theorem dX9_wrong_54 : decode cX9_wrong 54 = .ok (.lcmp, 1) := by decide +kernel
theorem dX9_wrong_55 : decode cX9_wrong 55 = .ok (.ifCond .eq 6, 3) := by decide +kernel
theorem dX9_wrong_58 : decode cX9_wrong 58 = .ok (.iinc 4 1, 3) := by decide +kernel
theorem dX9_wrong_61 : decode cX9_wrong 61 = .ok (.iinc 5 1, 3) := by decide +kernel
theorem dX9_wrong_64 : decode cX9_wrong 64 = .ok (.goto (-45), 3) := by decide +kernel
theorem dX9_wrong_67 : decode cX9_wrong 67 = .ok (.iload 4, 2) := by decide +kernel
theorem dX9_wrong_69 : decode cX9_wrong 69 = .ok (.ireturn, 1) := by decide +kernel
theorem dX9_anew_0 : decode cX9_anew 0 = .ok (.aload_n 0, 1) := by decide +kernel
theorem dX9_anew_1 : decode cX9_anew 1 = .ok (.iload_n 1, 1) := by decide +kernel
theorem dX9_anew_2 : decode cX9_anew 2 = .ok (.iload_n 2, 1) := by decide +kernel
theorem dX9_anew_3 : decode cX9_anew 3 = .ok (.invokevirtual 310, 3) := by decide +kernel
theorem dX9_anew_6 : decode cX9_anew 6 = .ok (.istore_n 3, 1) := by decide +kernel
theorem dX9_anew_7 : decode cX9_anew 7 = .ok (.iload_n 3, 1) := by decide +kernel
theorem dX9_anew_8 : decode cX9_anew 8 = .ok (.ifCond .eq 5, 3) := by decide +kernel
theorem dX9_anew_11 : decode cX9_anew 11 = .ok (.iload_n 3, 1) := by decide +kernel
theorem dX9_anew_12 : decode cX9_anew 12 = .ok (.ireturn, 1) := by decide +kernel
theorem dX9_anew_13 : decode cX9_anew 13 = .ok (.lconst 0, 1) := by decide +kernel
theorem dX9_anew_14 : decode cX9_anew 14 = .ok (.lstore 4, 2) := by decide +kernel
theorem dX9_anew_16 : decode cX9_anew 16 = .ok (.iconst 0, 1) := by decide +kernel
theorem dX9_anew_17 : decode cX9_anew 17 = .ok (.istore 6, 2) := by decide +kernel
theorem dX9_anew_19 : decode cX9_anew 19 = .ok (.iload 6, 2) := by decide +kernel
theorem dX9_anew_21 : decode cX9_anew 21 = .ok (.aload_n 0, 1) := by decide +kernel
theorem dX9_anew_22 : decode cX9_anew 22 = .ok (.getfield 19, 3) := by decide +kernel
theorem dX9_anew_25 : decode cX9_anew 25 = .ok (.getfield 313, 3) := by decide +kernel
theorem dX9_anew_28 : decode cX9_anew 28 = .ok (.if_icmp .ge 38, 3) := by decide +kernel
theorem dX9_anew_31 : decode cX9_anew 31 = .ok (.lload 4, 2) := by decide +kernel
theorem dX9_anew_33 : decode cX9_anew 33 = .ok (.aload_n 0, 1) := by decide +kernel
theorem dX9_anew_34 : decode cX9_anew 34 = .ok (.getfield 46, 3) := by decide +kernel
theorem dX9_anew_37 : decode cX9_anew 37 = .ok (.getfield 316, 3) := by decide +kernel
theorem dX9_anew_40 : decode cX9_anew 40 = .ok (.iload_n 1, 1) := by decide +kernel
theorem dX9_anew_41 : decode cX9_anew 41 = .ok (.aaload, 1) := by decide +kernel
theorem dX9_anew_42 : decode cX9_anew 42 = .ok (.iload 6, 2) := by decide +kernel
theorem dX9_anew_44 : decode cX9_anew 44 = .ok (.laload, 1) := by decide +kernel
theorem dX9_anew_45 : decode cX9_anew 45 = .ok (.aload_n 0, 1) := by decide +kernel
theorem dX9_anew_46 : decode cX9_anew 46 = .ok (.getfield 19, 3) := by decide +kernel
theorem dX9_anew_49 : decode cX9_anew 49 = .ok (.iload 6, 2) := by decide +kernel
theorem dX9_anew_51 : decode cX9_anew 51 = .ok (.iload_n 2, 1) := by decide +kernel
theorem dX9_anew_52 : decode cX9_anew 52 = .ok (.invokevirtual 183, 3) := by decide +kernel
theorem dX9_anew_55 : decode cX9_anew 55 = .ok (.i2l, 1) := by decide +kernel
theorem dX9_anew_56 : decode cX9_anew 56 = .ok (.lsub, 1) := by decide +kernel
theorem dX9_anew_57 : decode cX9_anew 57 = .ok (.ladd, 1) := by decide +kernel
theorem dX9_anew_58 : decode cX9_anew 58 = .ok (.lstore 4, 2) := by decide +kernel
theorem dX9_anew_60 : decode cX9_anew 60 = .ok (.iinc 6 1, 3) := by decide +kernel
theorem dX9_anew_63 : decode cX9_anew 63 = .ok (.goto (-44), 3) := by decide +kernel
theorem dX9_anew_66 : decode cX9_anew 66 = .ok (.iconst 0, 1) := by decide +kernel
theorem dX9_anew_67 : decode cX9_anew 67 = .ok (.istore 6, 2) := by decide +kernel
theorem dX9_anew_69 : decode cX9_anew 69 = .ok (.lload 4, 2) := by decide +kernel
theorem dX9_anew_71 : decode cX9_anew 71 = .ok (.lconst 0, 1) := by decide +kernel
theorem dX9_anew_72 : decode cX9_anew 72 = .ok (.lcmp, 1) := by decide +kernel
theorem dX9_anew_73 : decode cX9_anew 73 = .ok (.ifCond .eq 29, 3) := by decide +kernel
theorem dX9_anew_76 : decode cX9_anew 76 = .ok (.iload 6, 2) := by decide +kernel
theorem dX9_anew_78 : decode cX9_anew 78 = .ok (.iconst 4, 1) := by decide +kernel
theorem dX9_anew_79 : decode cX9_anew 79 = .ok (.if_icmp .ge 23, 3) := by decide +kernel
theorem dX9_anew_82 : decode cX9_anew 82 = .ok (.iconst 1, 1) := by decide +kernel
theorem dX9_anew_83 : decode cX9_anew 83 = .ok (.iload 6, 2) := by decide +kernel
theorem dX9_anew_85 : decode cX9_anew 85 = .ok (.ishl, 1) := by decide +kernel
theorem dX9_anew_86 : decode cX9_anew 86 = .ok (.aload_n 0, 1) := by decide +kernel
theorem dX9_anew_87 : decode cX9_anew 87 = .ok (.getfield 19, 3) := by decide +kernel
theorem dX9_anew_90 : decode cX9_anew 90 = .ok (.getfield 313, 3) := by decide +kernel
theorem dX9_anew_93 : decode cX9_anew 93 = .ok (.if_icmp .ge 9, 3) := by decide +kernel
theorem dX9_anew_96 : decode cX9_anew 96 = .ok (.iinc 6 1, 3) := by decide +kernel
theorem dX9_anew_99 : decode cX9_anew 99 = .ok (.goto (-23), 3) := by decide +kernel
theorem dX9_anew_102 : decode cX9_anew 102 = .ok (.iload 6, 2) := by decide +kernel
theorem dX9_anew_104 : decode cX9_anew 104 = .ok (.ireturn, 1) := by decide +kernel
theorem dX9_askTold_0 : decode cX9_askTold 0 = .ok (.iload_n 1, 1) := by decide +kernel
theorem dX9_askTold_1 : decode cX9_askTold 1 = .ok (.invokestatic 294, 3) := by decide +kernel
theorem dX9_askTold_4 : decode cX9_askTold 4 = .ok (.ifCond .eq 14, 3) := by decide +kernel
theorem dX9_askTold_7 : decode cX9_askTold 7 = .ok (.aload_n 0, 1) := by decide +kernel
theorem dX9_askTold_8 : decode cX9_askTold 8 = .ok (.getfield 19, 3) := by decide +kernel
theorem dX9_askTold_11 : decode cX9_askTold 11 = .ok (.iload_n 2, 1) := by decide +kernel
theorem dX9_askTold_12 : decode cX9_askTold 12 = .ok (.invokevirtual 170, 3) := by decide +kernel
theorem dX9_askTold_15 : decode cX9_askTold 15 = .ok (.ifCond .ne 6, 3) := by decide +kernel
theorem dX9_askTold_18 : decode cX9_askTold 18 = .ok (.bipush (-2), 2) := by decide +kernel
theorem dX9_askTold_20 : decode cX9_askTold 20 = .ok (.ireturn, 1) := by decide +kernel
theorem dX9_askTold_21 : decode cX9_askTold 21 = .ok (.aload_n 0, 1) := by decide +kernel
theorem dX9_askTold_22 : decode cX9_askTold 22 = .ok (.getfield 46, 3) := by decide +kernel
theorem dX9_askTold_25 : decode cX9_askTold 25 = .ok (.iload_n 1, 1) := by decide +kernel
theorem dX9_askTold_26 : decode cX9_askTold 26 = .ok (.invokevirtual 297, 3) := by decide +kernel
theorem dX9_askTold_29 : decode cX9_askTold 29 = .ok (.ifCond .ne 6, 3) := by decide +kernel
theorem dX9_askTold_32 : decode cX9_askTold 32 = .ok (.bipush (-6), 2) := by decide +kernel
theorem dX9_askTold_34 : decode cX9_askTold 34 = .ok (.ireturn, 1) := by decide +kernel
theorem dX9_askTold_35 : decode cX9_askTold 35 = .ok (.aload_n 0, 1) := by decide +kernel
theorem dX9_askTold_36 : decode cX9_askTold 36 = .ok (.getfield 46, 3) := by decide +kernel
theorem dX9_askTold_39 : decode cX9_askTold 39 = .ok (.getfield 320, 3) := by decide +kernel
theorem dX9_askTold_42 : decode cX9_askTold 42 = .ok (.iload_n 1, 1) := by decide +kernel
theorem dX9_askTold_43 : decode cX9_askTold 43 = .ok (.iaload, 1) := by decide +kernel
theorem dX9_askTold_44 : decode cX9_askTold 44 = .ok (.aload_n 0, 1) := by decide +kernel
theorem dX9_askTold_45 : decode cX9_askTold 45 = .ok (.getfield 19, 3) := by decide +kernel
theorem dX9_askTold_48 : decode cX9_askTold 48 = .ok (.getfield 313, 3) := by decide +kernel
theorem dX9_askTold_51 : decode cX9_askTold 51 = .ok (.if_icmp .eq 6, 3) := by decide +kernel
theorem dX9_askTold_54 : decode cX9_askTold 54 = .ok (.bipush (-7), 2) := by decide +kernel
theorem dX9_askTold_56 : decode cX9_askTold 56 = .ok (.ireturn, 1) := by decide +kernel
theorem dX9_askTold_57 : decode cX9_askTold 57 = .ok (.aload_n 0, 1) := by decide +kernel
theorem dX9_askTold_58 : decode cX9_askTold 58 = .ok (.getfield 46, 3) := by decide +kernel
theorem dX9_askTold_61 : decode cX9_askTold 61 = .ok (.iload_n 1, 1) := by decide +kernel
theorem dX9_askTold_62 : decode cX9_askTold 62 = .ok (.sipush 9999, 3) := by decide +kernel
theorem dX9_askTold_65 : decode cX9_askTold 65 = .ok (.invokevirtual 303, 3) := by decide +kernel
theorem dX9_askTold_68 : decode cX9_askTold 68 = .ok (.ifCond .eq 7, 3) := by decide +kernel
theorem dX9_askTold_71 : decode cX9_askTold 71 = .ok (.iconst 0, 1) := by decide +kernel
theorem dX9_askTold_72 : decode cX9_askTold 72 = .ok (.goto 5, 3) := by decide +kernel
theorem dX9_askTold_75 : decode cX9_askTold 75 = .ok (.bipush (-2), 2) := by decide +kernel
theorem dX9_askTold_77 : decode cX9_askTold 77 = .ok (.ireturn, 1) := by decide +kernel
theorem dX9_mixed_0 : decode cX9_mixed 0 = .ok (.aload_n 0, 1) := by decide +kernel
theorem dX9_mixed_1 : decode cX9_mixed 1 = .ok (.getfield 19, 3) := by decide +kernel
theorem dX9_mixed_4 : decode cX9_mixed 4 = .ok (.iload_n 2, 1) := by decide +kernel
theorem dX9_mixed_5 : decode cX9_mixed 5 = .ok (.invokevirtual 204, 3) := by decide +kernel
theorem dX9_mixed_8 : decode cX9_mixed 8 = .ok (.ifCond .eq 10, 3) := by decide +kernel
theorem dX9_mixed_11 : decode cX9_mixed 11 = .ok (.iload_n 1, 1) := by decide +kernel
theorem dX9_mixed_12 : decode cX9_mixed 12 = .ok (.invokestatic 323, 3) := by decide +kernel
theorem dX9_mixed_15 : decode cX9_mixed 15 = .ok (.ifCond .ne 6, 3) := by decide +kernel
theorem dX9_mixed_18 : decode cX9_mixed 18 = .ok (.bipush (-2), 2) := by decide +kernel
theorem dX9_mixed_20 : decode cX9_mixed 20 = .ok (.ireturn, 1) := by decide +kernel
theorem dX9_mixed_21 : decode cX9_mixed 21 = .ok (.aload_n 0, 1) := by decide +kernel
theorem dX9_mixed_22 : decode cX9_mixed 22 = .ok (.getfield 76, 3) := by decide +kernel
theorem dX9_mixed_25 : decode cX9_mixed 25 = .ok (.aload_n 0, 1) := by decide +kernel
theorem dX9_mixed_26 : decode cX9_mixed 26 = .ok (.getfield 19, 3) := by decide +kernel
theorem dX9_mixed_29 : decode cX9_mixed 29 = .ok (.iload_n 1, 1) := by decide +kernel
theorem dX9_mixed_30 : decode cX9_mixed 30 = .ok (.iload_n 2, 1) := by decide +kernel
theorem dX9_mixed_31 : decode cX9_mixed 31 = .ok (.invokevirtual 326, 3) := by decide +kernel
theorem dX9_mixed_34 : decode cX9_mixed 34 = .ok (.ireturn, 1) := by decide +kernel
theorem dX9_luck_0 : decode cX9_luck 0 = .ok (.aload_n 0, 1) := by decide +kernel
theorem dX9_luck_1 : decode cX9_luck 1 = .ok (.getfield 19, 3) := by decide +kernel
theorem dX9_luck_4 : decode cX9_luck 4 = .ok (.iload_n 3, 1) := by decide +kernel
theorem dX9_luck_5 : decode cX9_luck 5 = .ok (.invokevirtual 204, 3) := by decide +kernel
theorem dX9_luck_8 : decode cX9_luck 8 = .ok (.ifCond .eq 21, 3) := by decide +kernel
theorem dX9_luck_11 : decode cX9_luck 11 = .ok (.iload_n 1, 1) := by decide +kernel
theorem dX9_luck_12 : decode cX9_luck 12 = .ok (.invokestatic 323, 3) := by decide +kernel
theorem dX9_luck_15 : decode cX9_luck 15 = .ok (.ifCond .eq 14, 3) := by decide +kernel
theorem dX9_luck_18 : decode cX9_luck 18 = .ok (.iload_n 2, 1) := by decide +kernel
theorem dX9_luck_19 : decode cX9_luck 19 = .ok (.iconst 1, 1) := by decide +kernel
theorem dX9_luck_20 : decode cX9_luck 20 = .ok (.if_icmp .lt 9, 3) := by decide +kernel
theorem dX9_luck_23 : decode cX9_luck 23 = .ok (.iload_n 2, 1) := by decide +kernel
theorem dX9_luck_24 : decode cX9_luck 24 = .ok (.bipush 20, 2) := by decide +kernel
theorem dX9_luck_26 : decode cX9_luck 26 = .ok (.if_icmp .le 6, 3) := by decide +kernel
theorem dX9_luck_29 : decode cX9_luck 29 = .ok (.bipush (-2), 2) := by decide +kernel
theorem dX9_luck_31 : decode cX9_luck 31 = .ok (.ireturn, 1) := by decide +kernel
theorem dX9_luck_32 : decode cX9_luck 32 = .ok (.aload_n 0, 1) := by decide +kernel
theorem dX9_luck_33 : decode cX9_luck 33 = .ok (.getfield 53, 3) := by decide +kernel
theorem dX9_luck_36 : decode cX9_luck 36 = .ok (.aload_n 0, 1) := by decide +kernel
theorem dX9_luck_37 : decode cX9_luck 37 = .ok (.getfield 19, 3) := by decide +kernel
theorem dX9_luck_40 : decode cX9_luck 40 = .ok (.iload_n 3, 1) := by decide +kernel
theorem dX9_luck_41 : decode cX9_luck 41 = .ok (.invokevirtual 207, 3) := by decide +kernel
theorem dX9_luck_44 : decode cX9_luck 44 = .ok (.istore 4, 2) := by decide +kernel
theorem dX9_luck_46 : decode cX9_luck 46 = .ok (.iconst 0, 1) := by decide +kernel
theorem dX9_luck_47 : decode cX9_luck 47 = .ok (.istore 5, 2) := by decide +kernel
theorem dX9_luck_49 : decode cX9_luck 49 = .ok (.iconst 0, 1) := by decide +kernel
theorem dX9_luck_50 : decode cX9_luck 50 = .ok (.istore 6, 2) := by decide +kernel
theorem dX9_luck_52 : decode cX9_luck 52 = .ok (.iload 6, 2) := by decide +kernel
theorem dX9_luck_54 : decode cX9_luck 54 = .ok (.iload_n 2, 1) := by decide +kernel
theorem dX9_luck_55 : decode cX9_luck 55 = .ok (.if_icmp .ge 33, 3) := by decide +kernel
theorem dX9_luck_58 : decode cX9_luck 58 = .ok (.aload_n 0, 1) := by decide +kernel
theorem dX9_luck_59 : decode cX9_luck 59 = .ok (.getfield 76, 3) := by decide +kernel
theorem dX9_luck_62 : decode cX9_luck 62 = .ok (.aload_n 0, 1) := by decide +kernel
theorem dX9_luck_63 : decode cX9_luck 63 = .ok (.getfield 19, 3) := by decide +kernel
theorem dX9_luck_66 : decode cX9_luck 66 = .ok (.iload_n 1, 1) := by decide +kernel
theorem dX9_luck_67 : decode cX9_luck 67 = .ok (.iload 6, 2) := by decide +kernel
theorem dX9_luck_69 : decode cX9_luck 69 = .ok (.iadd, 1) := by decide +kernel
theorem dX9_luck_70 : decode cX9_luck 70 = .ok (.iload_n 3, 1) := by decide +kernel
theorem dX9_luck_71 : decode cX9_luck 71 = .ok (.invokevirtual 326, 3) := by decide +kernel
theorem dX9_luck_74 : decode cX9_luck 74 = .ok (.iload 4, 2) := by decide +kernel
theorem dX9_luck_76 : decode cX9_luck 76 = .ok (.if_icmp .le 6, 3) := by decide +kernel
theorem dX9_luck_79 : decode cX9_luck 79 = .ok (.iinc 5 1, 3) := by decide +kernel
theorem dX9_luck_82 : decode cX9_luck 82 = .ok (.iinc 6 1, 3) := by decide +kernel
theorem dX9_luck_85 : decode cX9_luck 85 = .ok (.goto (-33), 3) := by decide +kernel
theorem dX9_luck_88 : decode cX9_luck 88 = .ok (.iload 5, 2) := by decide +kernel
theorem dX9_luck_90 : decode cX9_luck 90 = .ok (.ireturn, 1) := by decide +kernel
theorem dX9_isSeed_0 : decode cX9_isSeed 0 = .ok (.iload_n 0, 1) := by decide +kernel
theorem dX9_isSeed_1 : decode cX9_isSeed 1 = .ok (.ifCond .lt 14, 3) := by decide +kernel
theorem dX9_isSeed_4 : decode cX9_isSeed 4 = .ok (.iload_n 0, 1) := by decide +kernel
theorem dX9_isSeed_5 : decode cX9_isSeed 5 = .ok (.ldc_w 328, 3) := by decide +kernel
theorem dX9_isSeed_8 : decode cX9_isSeed 8 = .ok (.if_icmp .gt 7, 3) := by decide +kernel
theorem dX9_isSeed_11 : decode cX9_isSeed 11 = .ok (.iconst 1, 1) := by decide +kernel
theorem dX9_isSeed_12 : decode cX9_isSeed 12 = .ok (.goto 4, 3) := by decide +kernel
theorem dX9_isSeed_15 : decode cX9_isSeed 15 = .ok (.iconst 0, 1) := by decide +kernel
theorem dX9_isSeed_16 : decode cX9_isSeed 16 = .ok (.ireturn, 1) := by decide +kernel
theorem dX9_free_0 : decode cX9_free 0 = .ok (.aload_n 0, 1) := by decide +kernel
theorem dX9_free_1 : decode cX9_free 1 = .ok (.getfield 19, 3) := by decide +kernel
theorem dX9_free_4 : decode cX9_free 4 = .ok (.iload_n 1, 1) := by decide +kernel
theorem dX9_free_5 : decode cX9_free 5 = .ok (.invokevirtual 204, 3) := by decide +kernel
theorem dX9_free_8 : decode cX9_free 8 = .ok (.ifCond .ne 6, 3) := by decide +kernel
theorem dX9_free_11 : decode cX9_free 11 = .ok (.bipush (-2), 2) := by decide +kernel
theorem dX9_free_13 : decode cX9_free 13 = .ok (.ireturn, 1) := by decide +kernel
theorem dX9_free_14 : decode cX9_free 14 = .ok (.aload_n 0, 1) := by decide +kernel
theorem dX9_free_15 : decode cX9_free 15 = .ok (.getfield 62, 3) := by decide +kernel
theorem dX9_free_18 : decode cX9_free 18 = .ok (.aload_n 0, 1) := by decide +kernel
theorem dX9_free_19 : decode cX9_free 19 = .ok (.getfield 19, 3) := by decide +kernel
theorem dX9_free_22 : decode cX9_free 22 = .ok (.invokevirtual 224, 3) := by decide +kernel
theorem dX9_free_25 : decode cX9_free 25 = .ok (.iconst 2, 1) := by decide +kernel
theorem dX9_free_26 : decode cX9_free 26 = .ok (.istore_n 2, 1) := by decide +kernel
theorem dX9_free_27 : decode cX9_free 27 = .ok (.iload_n 2, 1) := by decide +kernel
theorem dX9_free_28 : decode cX9_free 28 = .ok (.bipush 100, 2) := by decide +kernel
theorem dX9_free_30 : decode cX9_free 30 = .ok (.if_icmp .gt 42, 3) := by decide +kernel
theorem dX9_free_33 : decode cX9_free 33 = .ok (.aload_n 0, 1) := by decide +kernel
theorem dX9_free_34 : decode cX9_free 34 = .ok (.getfield 62, 3) := by decide +kernel
theorem dX9_free_37 : decode cX9_free 37 = .ok (.getfield 256, 3) := by decide +kernel
theorem dX9_free_40 : decode cX9_free 40 = .ok (.getfield 156, 3) := by decide +kernel
theorem dX9_free_43 : decode cX9_free 43 = .ok (.iconst 3, 1) := by decide +kernel
theorem dX9_free_44 : decode cX9_free 44 = .ok (.iload_n 2, 1) := by decide +kernel
theorem dX9_free_45 : decode cX9_free 45 = .ok (.iastore, 1) := by decide +kernel
theorem dX9_free_46 : decode cX9_free 46 = .ok (.aload_n 0, 1) := by decide +kernel
theorem dX9_free_47 : decode cX9_free 47 = .ok (.getfield 53, 3) := by decide +kernel
theorem dX9_free_50 : decode cX9_free 50 = .ok (.aload_n 0, 1) := by decide +kernel
theorem dX9_free_51 : decode cX9_free 51 = .ok (.getfield 62, 3) := by decide +kernel
theorem dX9_free_54 : decode cX9_free 54 = .ok (.getfield 256, 3) := by decide +kernel
theorem dX9_free_57 : decode cX9_free 57 = .ok (.iload_n 1, 1) := by decide +kernel
theorem dX9_free_58 : decode cX9_free 58 = .ok (.invokevirtual 207, 3) := by decide +kernel
theorem dX9_free_61 : decode cX9_free 61 = .ok (.ifCond .ne 5, 3) := by decide +kernel
theorem dX9_free_64 : decode cX9_free 64 = .ok (.iload_n 2, 1) := by decide +kernel
theorem dX9_free_65 : decode cX9_free 65 = .ok (.ireturn, 1) := by decide +kernel
theorem dX9_free_66 : decode cX9_free 66 = .ok (.iinc 2 1, 3) := by decide +kernel
theorem dX9_free_69 : decode cX9_free 69 = .ok (.goto (-42), 3) := by decide +kernel
theorem dX9_free_72 : decode cX9_free 72 = .ok (.iconst (-1), 1) := by decide +kernel
theorem dX9_free_73 : decode cX9_free 73 = .ok (.ireturn, 1) := by decide +kernel
theorem dX9_all_0 : decode cX9_all 0 = .ok (.aload_n 0, 1) := by decide +kernel
theorem dX9_all_1 : decode cX9_all 1 = .ok (.getfield 19, 3) := by decide +kernel
theorem dX9_all_4 : decode cX9_all 4 = .ok (.invokevirtual 149, 3) := by decide +kernel
theorem dX9_all_7 : decode cX9_all 7 = .ok (.ifCond .eq 12, 3) := by decide +kernel
theorem dX9_all_10 : decode cX9_all 10 = .ok (.iload_n 1, 1) := by decide +kernel
theorem dX9_all_11 : decode cX9_all 11 = .ok (.ifCond .lt 8, 3) := by decide +kernel
theorem dX9_all_14 : decode cX9_all 14 = .ok (.iload_n 1, 1) := by decide +kernel
theorem dX9_all_15 : decode cX9_all 15 = .ok (.iconst 3, 1) := by decide +kernel
theorem dX9_all_16 : decode cX9_all 16 = .ok (.if_icmp .le 6, 3) := by decide +kernel
theorem dX9_all_19 : decode cX9_all 19 = .ok (.bipush (-2), 2) := by decide +kernel
theorem dX9_all_21 : decode cX9_all 21 = .ok (.ireturn, 1) := by decide +kernel
theorem dX9_all_22 : decode cX9_all 22 = .ok (.aload_n 0, 1) := by decide +kernel
theorem dX9_all_23 : decode cX9_all 23 = .ok (.getfield 62, 3) := by decide +kernel
theorem dX9_all_26 : decode cX9_all 26 = .ok (.aload_n 0, 1) := by decide +kernel
theorem dX9_all_27 : decode cX9_all 27 = .ok (.getfield 19, 3) := by decide +kernel
theorem dX9_all_30 : decode cX9_all 30 = .ok (.invokevirtual 224, 3) := by decide +kernel
theorem dX9_all_33 : decode cX9_all 33 = .ok (.aload_n 0, 1) := by decide +kernel
theorem dX9_all_34 : decode cX9_all 34 = .ok (.getfield 62, 3) := by decide +kernel
theorem dX9_all_37 : decode cX9_all 37 = .ok (.getfield 256, 3) := by decide +kernel
theorem dX9_all_40 : decode cX9_all 40 = .ok (.getfield 156, 3) := by decide +kernel
theorem dX9_all_43 : decode cX9_all 43 = .ok (.iconst 1, 1) := by decide +kernel
theorem dX9_all_44 : decode cX9_all 44 = .ok (.iload_n 1, 1) := by decide +kernel
theorem dX9_all_45 : decode cX9_all 45 = .ok (.iconst 2, 1) := by decide +kernel
theorem dX9_all_46 : decode cX9_all 46 = .ok (.irem, 1) := by decide +kernel
theorem dX9_all_47 : decode cX9_all 47 = .ok (.iastore, 1) := by decide +kernel
theorem dX9_all_48 : decode cX9_all 48 = .ok (.aload_n 0, 1) := by decide +kernel
theorem dX9_all_49 : decode cX9_all 49 = .ok (.getfield 62, 3) := by decide +kernel
theorem dX9_all_52 : decode cX9_all 52 = .ok (.getfield 256, 3) := by decide +kernel
theorem dX9_all_55 : decode cX9_all 55 = .ok (.getfield 156, 3) := by decide +kernel
theorem dX9_all_58 : decode cX9_all 58 = .ok (.iconst 0, 1) := by decide +kernel
theorem dX9_all_59 : decode cX9_all 59 = .ok (.iload_n 1, 1) := by decide +kernel
theorem dX9_all_60 : decode cX9_all 60 = .ok (.iconst 2, 1) := by decide +kernel
theorem dX9_all_61 : decode cX9_all 61 = .ok (.idiv, 1) := by decide +kernel
theorem dX9_all_62 : decode cX9_all 62 = .ok (.iastore, 1) := by decide +kernel
theorem dX9_all_63 : decode cX9_all 63 = .ok (.aload_n 0, 1) := by decide +kernel
theorem dX9_all_64 : decode cX9_all 64 = .ok (.getfield 53, 3) := by decide +kernel
theorem dX9_all_67 : decode cX9_all 67 = .ok (.aload_n 0, 1) := by decide +kernel
theorem dX9_all_68 : decode cX9_all 68 = .ok (.getfield 62, 3) := by decide +kernel
theorem dX9_all_71 : decode cX9_all 71 = .ok (.getfield 256, 3) := by decide +kernel
theorem dX9_all_74 : decode cX9_all 74 = .ok (.invokevirtual 190, 3) := by decide +kernel
theorem dX9_all_77 : decode cX9_all 77 = .ok (.aload_n 0, 1) := by decide +kernel
theorem dX9_all_78 : decode cX9_all 78 = .ok (.getfield 19, 3) := by decide +kernel
theorem dX9_all_81 : decode cX9_all 81 = .ok (.getfield 156, 3) := by decide +kernel
theorem dX9_all_84 : decode cX9_all 84 = .ok (.iconst 4, 1) := by decide +kernel
theorem dX9_all_85 : decode cX9_all 85 = .ok (.iaload, 1) := by decide +kernel
theorem dX9_all_86 : decode cX9_all 86 = .ok (.imul, 1) := by decide +kernel
theorem dX9_all_87 : decode cX9_all 87 = .ok (.ireturn, 1) := by decide +kernel
theorem dX9_count_0 : decode cX9_count 0 = .ok (.iload_n 1, 1) := by decide +kernel
theorem dX9_count_1 : decode cX9_count 1 = .ok (.tableswitch 123 0 8 #[51, 59, 67, 75, 83, 91, 99, 107, 115], 51) := by decide +kernel
theorem dX9_count_52 : decode cX9_count 52 = .ok (.aload_n 0, 1) := by decide +kernel
theorem dX9_count_53 : decode cX9_count 53 = .ok (.getfield 19, 3) := by decide +kernel
theorem dX9_count_56 : decode cX9_count 56 = .ok (.getfield 313, 3) := by decide +kernel
theorem dX9_count_59 : decode cX9_count 59 = .ok (.ireturn, 1) := by decide +kernel
theorem dX9_count_60 : decode cX9_count 60 = .ok (.aload_n 0, 1) := by decide +kernel
theorem dX9_count_61 : decode cX9_count 61 = .ok (.getfield 19, 3) := by decide +kernel
theorem dX9_count_64 : decode cX9_count 64 = .ok (.getfield 329, 3) := by decide +kernel
theorem dX9_count_67 : decode cX9_count 67 = .ok (.ireturn, 1) := by decide +kernel
theorem dX9_count_68 : decode cX9_count 68 = .ok (.aload_n 0, 1) := by decide +kernel
theorem dX9_count_69 : decode cX9_count 69 = .ok (.getfield 19, 3) := by decide +kernel
theorem dX9_count_72 : decode cX9_count 72 = .ok (.getfield 215, 3) := by decide +kernel
theorem dX9_count_75 : decode cX9_count 75 = .ok (.ireturn, 1) := by decide +kernel
theorem dX9_count_76 : decode cX9_count 76 = .ok (.aload_n 0, 1) := by decide +kernel
theorem dX9_count_77 : decode cX9_count 77 = .ok (.getfield 19, 3) := by decide +kernel
theorem dX9_count_80 : decode cX9_count 80 = .ok (.getfield 332, 3) := by decide +kernel
theorem dX9_count_83 : decode cX9_count 83 = .ok (.ireturn, 1) := by decide +kernel
theorem dX9_count_84 : decode cX9_count 84 = .ok (.aload_n 0, 1) := by decide +kernel
theorem dX9_count_85 : decode cX9_count 85 = .ok (.getfield 19, 3) := by decide +kernel
theorem dX9_count_88 : decode cX9_count 88 = .ok (.getfield 335, 3) := by decide +kernel
theorem dX9_count_91 : decode cX9_count 91 = .ok (.ireturn, 1) := by decide +kernel
theorem dX9_count_92 : decode cX9_count 92 = .ok (.aload_n 0, 1) := by decide +kernel
theorem dX9_count_93 : decode cX9_count 93 = .ok (.getfield 19, 3) := by decide +kernel
theorem dX9_count_96 : decode cX9_count 96 = .ok (.getfield 105, 3) := by decide +kernel
theorem dX9_count_99 : decode cX9_count 99 = .ok (.ireturn, 1) := by decide +kernel
theorem dX9_count_100 : decode cX9_count 100 = .ok (.aload_n 0, 1) := by decide +kernel
theorem dX9_count_101 : decode cX9_count 101 = .ok (.getfield 10, 3) := by decide +kernel
theorem dX9_count_104 : decode cX9_count 104 = .ok (.getfield 80, 3) := by decide +kernel
theorem dX9_count_107 : decode cX9_count 107 = .ok (.ireturn, 1) := by decide +kernel
theorem dX9_count_108 : decode cX9_count 108 = .ok (.aload_n 0, 1) := by decide +kernel
theorem dX9_count_109 : decode cX9_count 109 = .ok (.getfield 19, 3) := by decide +kernel
theorem dX9_count_112 : decode cX9_count 112 = .ok (.getfield 338, 3) := by decide +kernel
theorem dX9_count_115 : decode cX9_count 115 = .ok (.ireturn, 1) := by decide +kernel
theorem dX9_count_116 : decode cX9_count 116 = .ok (.aload_n 0, 1) := by decide +kernel
theorem dX9_count_117 : decode cX9_count 117 = .ok (.getfield 46, 3) := by decide +kernel
theorem dX9_count_120 : decode cX9_count 120 = .ok (.invokevirtual 341, 3) := by decide +kernel
theorem dX9_count_123 : decode cX9_count 123 = .ok (.ireturn, 1) := by decide +kernel
theorem dX9_count_124 : decode cX9_count 124 = .ok (.iconst (-1), 1) := by decide +kernel
theorem dX9_count_125 : decode cX9_count 125 = .ok (.ireturn, 1) := by decide +kernel
theorem dX9_keep_0 : decode cX9_keep 0 = .ok (.iload_n 1, 1) := by decide +kernel
theorem dX9_keep_1 : decode cX9_keep 1 = .ok (.ifCond .lt 8, 3) := by decide +kernel
theorem dX9_keep_4 : decode cX9_keep 4 = .ok (.iload_n 1, 1) := by decide +kernel
theorem dX9_keep_5 : decode cX9_keep 5 = .ok (.iconst 3, 1) := by decide +kernel
theorem dX9_keep_6 : decode cX9_keep 6 = .ok (.if_icmp .lt 6, 3) := by decide +kernel
theorem dX9_keep_9 : decode cX9_keep 9 = .ok (.bipush (-2), 2) := by decide +kernel
theorem dX9_keep_11 : decode cX9_keep 11 = .ok (.ireturn, 1) := by decide +kernel
theorem dX9_keep_12 : decode cX9_keep 12 = .ok (.aload_n 0, 1) := by decide +kernel
theorem dX9_keep_13 : decode cX9_keep 13 = .ok (.getfield 35, 3) := by decide +kernel
theorem dX9_keep_16 : decode cX9_keep 16 = .ok (.iload_n 1, 1) := by decide +kernel
theorem dX9_keep_17 : decode cX9_keep 17 = .ok (.aaload, 1) := by decide +kernel
theorem dX9_keep_18 : decode cX9_keep 18 = .ok (.aload_n 0, 1) := by decide +kernel
theorem dX9_keep_19 : decode cX9_keep 19 = .ok (.getfield 19, 3) := by decide +kernel
theorem dX9_keep_22 : decode cX9_keep 22 = .ok (.invokevirtual 101, 3) := by decide +kernel
theorem dX9_keep_25 : decode cX9_keep 25 = .ok (.aload_n 0, 1) := by decide +kernel
theorem dX9_keep_26 : decode cX9_keep 26 = .ok (.getfield 39, 3) := by decide +kernel
theorem dX9_keep_29 : decode cX9_keep 29 = .ok (.iload_n 1, 1) := by decide +kernel
theorem dX9_keep_30 : decode cX9_keep 30 = .ok (.iconst 1, 1) := by decide +kernel
theorem dX9_keep_31 : decode cX9_keep 31 = .ok (.bastore, 1) := by decide +kernel
theorem dX9_keep_32 : decode cX9_keep 32 = .ok (.iconst 0, 1) := by decide +kernel
theorem dX9_keep_33 : decode cX9_keep 33 = .ok (.ireturn, 1) := by decide +kernel
theorem dX9_back_0 : decode cX9_back 0 = .ok (.iload_n 1, 1) := by decide +kernel
theorem dX9_back_1 : decode cX9_back 1 = .ok (.ifCond .lt 8, 3) := by decide +kernel
theorem dX9_back_4 : decode cX9_back 4 = .ok (.iload_n 1, 1) := by decide +kernel
theorem dX9_back_5 : decode cX9_back 5 = .ok (.iconst 3, 1) := by decide +kernel
theorem dX9_back_6 : decode cX9_back 6 = .ok (.if_icmp .lt 6, 3) := by decide +kernel
theorem dX9_back_9 : decode cX9_back 9 = .ok (.bipush (-2), 2) := by decide +kernel
theorem dX9_back_11 : decode cX9_back 11 = .ok (.ireturn, 1) := by decide +kernel
theorem dX9_back_12 : decode cX9_back 12 = .ok (.aload_n 0, 1) := by decide +kernel
theorem dX9_back_13 : decode cX9_back 13 = .ok (.getfield 39, 3) := by decide +kernel
theorem dX9_back_16 : decode cX9_back 16 = .ok (.iload_n 1, 1) := by decide +kernel
theorem dX9_back_17 : decode cX9_back 17 = .ok (.baload, 1) := by decide +kernel
theorem dX9_back_18 : decode cX9_back 18 = .ok (.ifCond .ne 6, 3) := by decide +kernel
theorem dX9_back_21 : decode cX9_back 21 = .ok (.bipush (-6), 2) := by decide +kernel
theorem dX9_back_23 : decode cX9_back 23 = .ok (.ireturn, 1) := by decide +kernel
theorem dX9_back_24 : decode cX9_back 24 = .ok (.aload_n 0, 1) := by decide +kernel
theorem dX9_back_25 : decode cX9_back 25 = .ok (.getfield 19, 3) := by decide +kernel
theorem dX9_back_28 : decode cX9_back 28 = .ok (.aload_n 0, 1) := by decide +kernel
theorem dX9_back_29 : decode cX9_back 29 = .ok (.getfield 35, 3) := by decide +kernel
theorem dX9_back_32 : decode cX9_back 32 = .ok (.iload_n 1, 1) := by decide +kernel
theorem dX9_back_33 : decode cX9_back 33 = .ok (.aaload, 1) := by decide +kernel
theorem dX9_back_34 : decode cX9_back 34 = .ok (.invokevirtual 101, 3) := by decide +kernel
theorem dX9_back_37 : decode cX9_back 37 = .ok (.iconst 0, 1) := by decide +kernel
theorem dX9_back_38 : decode cX9_back 38 = .ok (.ireturn, 1) := by decide +kernel
theorem dX9_row_0 : decode cX9_row 0 = .ok (.iload_n 1, 1) := by decide +kernel
theorem dX9_row_1 : decode cX9_row 1 = .ok (.invokestatic 294, 3) := by decide +kernel
theorem dX9_row_4 : decode cX9_row 4 = .ok (.ifCond .eq 18, 3) := by decide +kernel
theorem dX9_row_7 : decode cX9_row 7 = .ok (.iload_n 2, 1) := by decide +kernel
theorem dX9_row_8 : decode cX9_row 8 = .ok (.ifCond .lt 14, 3) := by decide +kernel
theorem dX9_row_11 : decode cX9_row 11 = .ok (.iload_n 2, 1) := by decide +kernel
theorem dX9_row_12 : decode cX9_row 12 = .ok (.iconst 4, 1) := by decide +kernel
theorem dX9_row_13 : decode cX9_row 13 = .ok (.if_icmp .ge 9, 3) := by decide +kernel
theorem dX9_row_16 : decode cX9_row 16 = .ok (.iload_n 3, 1) := by decide +kernel
theorem dX9_row_17 : decode cX9_row 17 = .ok (.bipush 60, 2) := by decide +kernel
theorem dX9_row_19 : decode cX9_row 19 = .ok (.if_icmp .le 6, 3) := by decide +kernel
theorem dX9_row_22 : decode cX9_row 22 = .ok (.bipush (-2), 2) := by decide +kernel
theorem dX9_row_24 : decode cX9_row 24 = .ok (.ireturn, 1) := by decide +kernel
theorem dX9_row_25 : decode cX9_row 25 = .ok (.iload_n 3, 1) := by decide +kernel
theorem dX9_row_26 : decode cX9_row 26 = .ok (.ifCond .ge 6, 3) := by decide +kernel
theorem dX9_row_29 : decode cX9_row 29 = .ok (.bipush (-3), 2) := by decide +kernel
theorem dX9_row_31 : decode cX9_row 31 = .ok (.ireturn, 1) := by decide +kernel
theorem dX9_row_32 : decode cX9_row 32 = .ok (.aload_n 0, 1) := by decide +kernel
theorem dX9_row_33 : decode cX9_row 33 = .ok (.getfield 46, 3) := by decide +kernel
theorem dX9_row_36 : decode cX9_row 36 = .ok (.iload_n 1, 1) := by decide +kernel
theorem dX9_row_37 : decode cX9_row 37 = .ok (.iload_n 2, 1) := by decide +kernel
theorem dX9_row_38 : decode cX9_row 38 = .ok (.iload_n 3, 1) := by decide +kernel
theorem dX9_row_39 : decode cX9_row 39 = .ok (.invokevirtual 344, 3) := by decide +kernel
theorem dX9_row_42 : decode cX9_row 42 = .ok (.iconst 0, 1) := by decide +kernel
theorem dX9_row_43 : decode cX9_row 43 = .ok (.ireturn, 1) := by decide +kernel
theorem dX9_write_0 : decode cX9_write 0 = .ok (.iload_n 1, 1) := by decide +kernel
theorem dX9_write_1 : decode cX9_write 1 = .ok (.invokestatic 294, 3) := by decide +kernel
theorem dX9_write_4 : decode cX9_write 4 = .ok (.ifCond .ne 6, 3) := by decide +kernel
theorem dX9_write_7 : decode cX9_write 7 = .ok (.bipush (-2), 2) := by decide +kernel
theorem dX9_write_9 : decode cX9_write 9 = .ok (.ireturn, 1) := by decide +kernel
theorem dX9_write_10 : decode cX9_write 10 = .ok (.aload_n 0, 1) := by decide +kernel
theorem dX9_write_11 : decode cX9_write 11 = .ok (.getfield 46, 3) := by decide +kernel
theorem dX9_write_14 : decode cX9_write 14 = .ok (.iload_n 1, 1) := by decide +kernel
theorem dX9_write_15 : decode cX9_write 15 = .ok (.invokevirtual 297, 3) := by decide +kernel
theorem dX9_write_18 : decode cX9_write 18 = .ok (.ifCond .ne 6, 3) := by decide +kernel
theorem dX9_write_21 : decode cX9_write 21 = .ok (.bipush (-6), 2) := by decide +kernel
theorem dX9_write_23 : decode cX9_write 23 = .ok (.ireturn, 1) := by decide +kernel
theorem dX9_write_24 : decode cX9_write 24 = .ok (.iload_n 2, 1) := by decide +kernel
theorem dX9_write_25 : decode cX9_write 25 = .ok (.ifCond .lt 16, 3) := by decide +kernel
theorem dX9_write_28 : decode cX9_write 28 = .ok (.iload_n 2, 1) := by decide +kernel
theorem dX9_write_29 : decode cX9_write 29 = .ok (.aload_n 0, 1) := by decide +kernel
theorem dX9_write_30 : decode cX9_write 30 = .ok (.getfield 46, 3) := by decide +kernel
theorem dX9_write_33 : decode cX9_write 33 = .ok (.getfield 320, 3) := by decide +kernel
theorem dX9_write_36 : decode cX9_write 36 = .ok (.iload_n 1, 1) := by decide +kernel
theorem dX9_write_37 : decode cX9_write 37 = .ok (.iaload, 1) := by decide +kernel
theorem dX9_write_38 : decode cX9_write 38 = .ok (.if_icmp .lt 6, 3) := by decide +kernel
theorem dX9_write_41 : decode cX9_write 41 = .ok (.bipush (-7), 2) := by decide +kernel
theorem dX9_write_43 : decode cX9_write 43 = .ok (.ireturn, 1) := by decide +kernel
theorem dX9_write_44 : decode cX9_write 44 = .ok (.aload_n 0, 1) := by decide +kernel
theorem dX9_write_45 : decode cX9_write 45 = .ok (.getfield 46, 3) := by decide +kernel
theorem dX9_write_48 : decode cX9_write 48 = .ok (.getfield 316, 3) := by decide +kernel
theorem dX9_write_51 : decode cX9_write 51 = .ok (.iload_n 1, 1) := by decide +kernel
theorem dX9_write_52 : decode cX9_write 52 = .ok (.aaload, 1) := by decide +kernel
theorem dX9_write_53 : decode cX9_write 53 = .ok (.iload_n 2, 1) := by decide +kernel
theorem dX9_write_54 : decode cX9_write 54 = .ok (.lload_n 3, 1) := by decide +kernel
theorem dX9_write_55 : decode cX9_write 55 = .ok (.aload_n 0, 1) := by decide +kernel
theorem dX9_write_56 : decode cX9_write 56 = .ok (.getfield 46, 3) := by decide +kernel
theorem dX9_write_59 : decode cX9_write 59 = .ok (.getfield 347, 3) := by decide +kernel
theorem dX9_write_62 : decode cX9_write 62 = .ok (.iload_n 1, 1) := by decide +kernel
theorem dX9_write_63 : decode cX9_write 63 = .ok (.iaload, 1) := by decide +kernel
theorem dX9_write_64 : decode cX9_write 64 = .ok (.invokestatic 350, 3) := by decide +kernel
theorem dX9_write_67 : decode cX9_write 67 = .ok (.lastore, 1) := by decide +kernel
theorem dX9_write_68 : decode cX9_write 68 = .ok (.iconst 0, 1) := by decide +kernel
theorem dX9_write_69 : decode cX9_write 69 = .ok (.ireturn, 1) := by decide +kernel
theorem dX9_paste_0 : decode cX9_paste 0 = .ok (.iload_n 1, 1) := by decide +kernel
theorem dX9_paste_1 : decode cX9_paste 1 = .ok (.invokestatic 294, 3) := by decide +kernel
theorem dX9_paste_4 : decode cX9_paste 4 = .ok (.ifCond .eq 10, 3) := by decide +kernel
theorem dX9_paste_7 : decode cX9_paste 7 = .ok (.iload_n 3, 1) := by decide +kernel
theorem dX9_paste_8 : decode cX9_paste 8 = .ok (.invokestatic 294, 3) := by decide +kernel
theorem dX9_paste_11 : decode cX9_paste 11 = .ok (.ifCond .ne 6, 3) := by decide +kernel
theorem dX9_paste_14 : decode cX9_paste 14 = .ok (.bipush (-2), 2) := by decide +kernel
theorem dX9_paste_16 : decode cX9_paste 16 = .ok (.ireturn, 1) := by decide +kernel
theorem dX9_paste_17 : decode cX9_paste 17 = .ok (.aload_n 0, 1) := by decide +kernel
theorem dX9_paste_18 : decode cX9_paste 18 = .ok (.getfield 46, 3) := by decide +kernel
theorem dX9_paste_21 : decode cX9_paste 21 = .ok (.iload_n 1, 1) := by decide +kernel
theorem dX9_paste_22 : decode cX9_paste 22 = .ok (.invokevirtual 297, 3) := by decide +kernel
theorem dX9_paste_25 : decode cX9_paste 25 = .ok (.ifCond .eq 14, 3) := by decide +kernel
theorem dX9_paste_28 : decode cX9_paste 28 = .ok (.aload_n 0, 1) := by decide +kernel
theorem dX9_paste_29 : decode cX9_paste 29 = .ok (.getfield 46, 3) := by decide +kernel
theorem dX9_paste_32 : decode cX9_paste 32 = .ok (.iload_n 3, 1) := by decide +kernel
theorem dX9_paste_33 : decode cX9_paste 33 = .ok (.invokevirtual 297, 3) := by decide +kernel
theorem dX9_paste_36 : decode cX9_paste 36 = .ok (.ifCond .ne 6, 3) := by decide +kernel
theorem dX9_paste_39 : decode cX9_paste 39 = .ok (.bipush (-6), 2) := by decide +kernel
theorem dX9_paste_41 : decode cX9_paste 41 = .ok (.ireturn, 1) := by decide +kernel
theorem dX9_paste_42 : decode cX9_paste 42 = .ok (.aload_n 0, 1) := by decide +kernel
theorem dX9_paste_43 : decode cX9_paste 43 = .ok (.getfield 46, 3) := by decide +kernel
theorem dX9_paste_46 : decode cX9_paste 46 = .ok (.getfield 347, 3) := by decide +kernel
theorem dX9_paste_49 : decode cX9_paste 49 = .ok (.iload_n 1, 1) := by decide +kernel
theorem dX9_paste_50 : decode cX9_paste 50 = .ok (.iaload, 1) := by decide +kernel

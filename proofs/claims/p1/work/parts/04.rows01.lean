theorem dX0_init_0 : decode cX0_init 0 = .ok (.aload_n 0, 1) := by decide +kernel
theorem dX0_init_1 : decode cX0_init 1 = .ok (.invokespecial 1, 3) := by decide +kernel
theorem dX0_init_4 : decode cX0_init 4 = .ok (.return_, 1) := by decide +kernel
theorem dX1_init_0 : decode cX1_init 0 = .ok (.aload_n 0, 1) := by decide +kernel
theorem dX1_init_1 : decode cX1_init 1 = .ok (.invokespecial 3, 3) := by decide +kernel
theorem dX1_init_4 : decode cX1_init 4 = .ok (.aload_n 0, 1) := by decide +kernel
theorem dX1_init_5 : decode cX1_init 5 = .ok (.sipush 2376, 3) := by decide +kernel
theorem dX1_init_8 : decode cX1_init 8 = .ok (.newarray .byte, 2) := by decide +kernel
theorem dX1_init_10 : decode cX1_init 10 = .ok (.putfield 9, 3) := by decide +kernel
theorem dX1_init_13 : decode cX1_init 13 = .ok (.aload_n 0, 1) := by decide +kernel
theorem dX1_init_14 : decode cX1_init 14 = .ok (.aload_n 1, 1) := by decide +kernel
theorem dX1_init_15 : decode cX1_init 15 = .ok (.putfield 15, 3) := by decide +kernel
theorem dX1_init_18 : decode cX1_init 18 = .ok (.return_, 1) := by decide +kernel
theorem dX2_init_0 : decode cX2_init 0 = .ok (.aload_n 0, 1) := by decide +kernel
theorem dX2_init_1 : decode cX2_init 1 = .ok (.invokespecial 3, 3) := by decide +kernel
theorem dX2_init_4 : decode cX2_init 4 = .ok (.aload_n 0, 1) := by decide +kernel
theorem dX2_init_5 : decode cX2_init 5 = .ok (.iconst 5, 1) := by decide +kernel
theorem dX2_init_6 : decode cX2_init 6 = .ok (.newarray .int, 2) := by decide +kernel
theorem dX2_init_8 : decode cX2_init 8 = .ok (.putfield 9, 3) := by decide +kernel
theorem dX2_init_11 : decode cX2_init 11 = .ok (.aload_n 0, 1) := by decide +kernel
theorem dX2_init_12 : decode cX2_init 12 = .ok (.iconst 4, 1) := by decide +kernel
theorem dX2_init_13 : decode cX2_init 13 = .ok (.newarray .int, 2) := by decide +kernel
theorem dX2_init_15 : decode cX2_init 15 = .ok (.putfield 15, 3) := by decide +kernel
theorem dX2_init_18 : decode cX2_init 18 = .ok (.aload_n 0, 1) := by decide +kernel
theorem dX2_init_19 : decode cX2_init 19 = .ok (.bipush 36, 2) := by decide +kernel
theorem dX2_init_21 : decode cX2_init 21 = .ok (.newarray .int, 2) := by decide +kernel
theorem dX2_init_23 : decode cX2_init 23 = .ok (.putfield 18, 3) := by decide +kernel
theorem dX2_init_26 : decode cX2_init 26 = .ok (.aload_n 0, 1) := by decide +kernel
theorem dX2_init_27 : decode cX2_init 27 = .ok (.bipush 13, 2) := by decide +kernel
theorem dX2_init_29 : decode cX2_init 29 = .ok (.anewarray 21, 3) := by decide +kernel
theorem dX2_init_32 : decode cX2_init 32 = .ok (.putfield 23, 3) := by decide +kernel
theorem dX2_init_35 : decode cX2_init 35 = .ok (.iconst 0, 1) := by decide +kernel
theorem dX2_init_36 : decode cX2_init 36 = .ok (.istore_n 1, 1) := by decide +kernel
theorem dX2_init_37 : decode cX2_init 37 = .ok (.iload_n 1, 1) := by decide +kernel
theorem dX2_init_38 : decode cX2_init 38 = .ok (.bipush 12, 2) := by decide +kernel
theorem dX2_init_40 : decode cX2_init 40 = .ok (.if_icmp .gt 22, 3) := by decide +kernel
theorem dX2_init_43 : decode cX2_init 43 = .ok (.aload_n 0, 1) := by decide +kernel
theorem dX2_init_44 : decode cX2_init 44 = .ok (.getfield 23, 3) := by decide +kernel
theorem dX2_init_47 : decode cX2_init 47 = .ok (.iload_n 1, 1) := by decide +kernel
theorem dX2_init_48 : decode cX2_init 48 = .ok (.new 21, 3) := by decide +kernel
theorem dX2_init_51 : decode cX2_init 51 = .ok (.dup, 1) := by decide +kernel
theorem dX2_init_52 : decode cX2_init 52 = .ok (.invokespecial 27, 3) := by decide +kernel
theorem dX2_init_55 : decode cX2_init 55 = .ok (.aastore, 1) := by decide +kernel
theorem dX2_init_56 : decode cX2_init 56 = .ok (.iinc 1 1, 3) := by decide +kernel
theorem dX2_init_59 : decode cX2_init 59 = .ok (.goto (-22), 3) := by decide +kernel
theorem dX2_init_62 : decode cX2_init 62 = .ok (.return_, 1) := by decide +kernel
theorem dX2_forget_0 : decode cX2_forget 0 = .ok (.aload_n 0, 1) := by decide +kernel
theorem dX2_forget_1 : decode cX2_forget 1 = .ok (.iconst 0, 1) := by decide +kernel
theorem dX2_forget_2 : decode cX2_forget 2 = .ok (.putfield 28, 3) := by decide +kernel
theorem dX2_forget_5 : decode cX2_forget 5 = .ok (.aload_n 0, 1) := by decide +kernel
theorem dX2_forget_6 : decode cX2_forget 6 = .ok (.iconst 0, 1) := by decide +kernel
theorem dX2_forget_7 : decode cX2_forget 7 = .ok (.putfield 32, 3) := by decide +kernel
theorem dX2_forget_10 : decode cX2_forget 10 = .ok (.aload_n 0, 1) := by decide +kernel
theorem dX2_forget_11 : decode cX2_forget 11 = .ok (.iconst 0, 1) := by decide +kernel
theorem dX2_forget_12 : decode cX2_forget 12 = .ok (.putfield 35, 3) := by decide +kernel
theorem dX2_forget_15 : decode cX2_forget 15 = .ok (.aload_n 0, 1) := by decide +kernel
theorem dX2_forget_16 : decode cX2_forget 16 = .ok (.iconst 0, 1) := by decide +kernel
theorem dX2_forget_17 : decode cX2_forget 17 = .ok (.putfield 38, 3) := by decide +kernel
theorem dX2_forget_20 : decode cX2_forget 20 = .ok (.aload_n 0, 1) := by decide +kernel
theorem dX2_forget_21 : decode cX2_forget 21 = .ok (.iconst 0, 1) := by decide +kernel
theorem dX2_forget_22 : decode cX2_forget 22 = .ok (.putfield 41, 3) := by decide +kernel
theorem dX2_forget_25 : decode cX2_forget 25 = .ok (.aload_n 0, 1) := by decide +kernel
theorem dX2_forget_26 : decode cX2_forget 26 = .ok (.iconst 0, 1) := by decide +kernel
theorem dX2_forget_27 : decode cX2_forget 27 = .ok (.putfield 44, 3) := by decide +kernel
theorem dX2_forget_30 : decode cX2_forget 30 = .ok (.aload_n 0, 1) := by decide +kernel
theorem dX2_forget_31 : decode cX2_forget 31 = .ok (.iconst 0, 1) := by decide +kernel
theorem dX2_forget_32 : decode cX2_forget 32 = .ok (.putfield 47, 3) := by decide +kernel
theorem dX2_forget_35 : decode cX2_forget 35 = .ok (.aload_n 0, 1) := by decide +kernel
theorem dX2_forget_36 : decode cX2_forget 36 = .ok (.getfield 9, 3) := by decide +kernel
theorem dX2_forget_39 : decode cX2_forget 39 = .ok (.iconst 0, 1) := by decide +kernel
theorem dX2_forget_40 : decode cX2_forget 40 = .ok (.invokestatic 50, 3) := by decide +kernel
theorem dX2_forget_43 : decode cX2_forget 43 = .ok (.aload_n 0, 1) := by decide +kernel
theorem dX2_forget_44 : decode cX2_forget 44 = .ok (.getfield 15, 3) := by decide +kernel
theorem dX2_forget_47 : decode cX2_forget 47 = .ok (.iconst 0, 1) := by decide +kernel
theorem dX2_forget_48 : decode cX2_forget 48 = .ok (.invokestatic 50, 3) := by decide +kernel
theorem dX2_forget_51 : decode cX2_forget 51 = .ok (.aload_n 0, 1) := by decide +kernel
theorem dX2_forget_52 : decode cX2_forget 52 = .ok (.getfield 18, 3) := by decide +kernel
theorem dX2_forget_55 : decode cX2_forget 55 = .ok (.iconst 0, 1) := by decide +kernel
theorem dX2_forget_56 : decode cX2_forget 56 = .ok (.invokestatic 50, 3) := by decide +kernel
theorem dX2_forget_59 : decode cX2_forget 59 = .ok (.return_, 1) := by decide +kernel
theorem dX2_copy_0 : decode cX2_copy 0 = .ok (.aload_n 0, 1) := by decide +kernel
theorem dX2_copy_1 : decode cX2_copy 1 = .ok (.aload_n 1, 1) := by decide +kernel
theorem dX2_copy_2 : decode cX2_copy 2 = .ok (.getfield 28, 3) := by decide +kernel
theorem dX2_copy_5 : decode cX2_copy 5 = .ok (.putfield 28, 3) := by decide +kernel
theorem dX2_copy_8 : decode cX2_copy 8 = .ok (.aload_n 0, 1) := by decide +kernel
theorem dX2_copy_9 : decode cX2_copy 9 = .ok (.aload_n 1, 1) := by decide +kernel
theorem dX2_copy_10 : decode cX2_copy 10 = .ok (.getfield 32, 3) := by decide +kernel
theorem dX2_copy_13 : decode cX2_copy 13 = .ok (.putfield 32, 3) := by decide +kernel
theorem dX2_copy_16 : decode cX2_copy 16 = .ok (.aload_n 0, 1) := by decide +kernel
theorem dX2_copy_17 : decode cX2_copy 17 = .ok (.aload_n 1, 1) := by decide +kernel
theorem dX2_copy_18 : decode cX2_copy 18 = .ok (.getfield 35, 3) := by decide +kernel
theorem dX2_copy_21 : decode cX2_copy 21 = .ok (.putfield 35, 3) := by decide +kernel
theorem dX2_copy_24 : decode cX2_copy 24 = .ok (.aload_n 0, 1) := by decide +kernel
theorem dX2_copy_25 : decode cX2_copy 25 = .ok (.aload_n 1, 1) := by decide +kernel
theorem dX2_copy_26 : decode cX2_copy 26 = .ok (.getfield 38, 3) := by decide +kernel
theorem dX2_copy_29 : decode cX2_copy 29 = .ok (.putfield 38, 3) := by decide +kernel
theorem dX2_copy_32 : decode cX2_copy 32 = .ok (.aload_n 0, 1) := by decide +kernel
theorem dX2_copy_33 : decode cX2_copy 33 = .ok (.aload_n 1, 1) := by decide +kernel
theorem dX2_copy_34 : decode cX2_copy 34 = .ok (.getfield 41, 3) := by decide +kernel
theorem dX2_copy_37 : decode cX2_copy 37 = .ok (.putfield 41, 3) := by decide +kernel
theorem dX2_copy_40 : decode cX2_copy 40 = .ok (.aload_n 0, 1) := by decide +kernel
theorem dX2_copy_41 : decode cX2_copy 41 = .ok (.aload_n 1, 1) := by decide +kernel
theorem dX2_copy_42 : decode cX2_copy 42 = .ok (.getfield 44, 3) := by decide +kernel
theorem dX2_copy_45 : decode cX2_copy 45 = .ok (.putfield 44, 3) := by decide +kernel
theorem dX2_copy_48 : decode cX2_copy 48 = .ok (.aload_n 0, 1) := by decide +kernel
theorem dX2_copy_49 : decode cX2_copy 49 = .ok (.aload_n 1, 1) := by decide +kernel
theorem dX2_copy_50 : decode cX2_copy 50 = .ok (.getfield 47, 3) := by decide +kernel
theorem dX2_copy_53 : decode cX2_copy 53 = .ok (.putfield 47, 3) := by decide +kernel
theorem dX2_copy_56 : decode cX2_copy 56 = .ok (.aload_n 1, 1) := by decide +kernel
theorem dX2_copy_57 : decode cX2_copy 57 = .ok (.getfield 9, 3) := by decide +kernel
theorem dX2_copy_60 : decode cX2_copy 60 = .ok (.iconst 0, 1) := by decide +kernel
theorem dX2_copy_61 : decode cX2_copy 61 = .ok (.aload_n 0, 1) := by decide +kernel
theorem dX2_copy_62 : decode cX2_copy 62 = .ok (.getfield 9, 3) := by decide +kernel
theorem dX2_copy_65 : decode cX2_copy 65 = .ok (.iconst 0, 1) := by decide +kernel
theorem dX2_copy_66 : decode cX2_copy 66 = .ok (.iconst 5, 1) := by decide +kernel
theorem dX2_copy_67 : decode cX2_copy 67 = .ok (.invokestatic 56, 3) := by decide +kernel
theorem dX2_copy_70 : decode cX2_copy 70 = .ok (.aload_n 1, 1) := by decide +kernel
theorem dX2_copy_71 : decode cX2_copy 71 = .ok (.getfield 15, 3) := by decide +kernel
theorem dX2_copy_74 : decode cX2_copy 74 = .ok (.iconst 0, 1) := by decide +kernel
theorem dX2_copy_75 : decode cX2_copy 75 = .ok (.aload_n 0, 1) := by decide +kernel
theorem dX2_copy_76 : decode cX2_copy 76 = .ok (.getfield 15, 3) := by decide +kernel
theorem dX2_copy_79 : decode cX2_copy 79 = .ok (.iconst 0, 1) := by decide +kernel
theorem dX2_copy_80 : decode cX2_copy 80 = .ok (.iconst 4, 1) := by decide +kernel
theorem dX2_copy_81 : decode cX2_copy 81 = .ok (.invokestatic 56, 3) := by decide +kernel
theorem dX2_copy_84 : decode cX2_copy 84 = .ok (.aload_n 1, 1) := by decide +kernel
theorem dX2_copy_85 : decode cX2_copy 85 = .ok (.getfield 18, 3) := by decide +kernel
theorem dX2_copy_88 : decode cX2_copy 88 = .ok (.iconst 0, 1) := by decide +kernel
theorem dX2_copy_89 : decode cX2_copy 89 = .ok (.aload_n 0, 1) := by decide +kernel
theorem dX2_copy_90 : decode cX2_copy 90 = .ok (.getfield 18, 3) := by decide +kernel
theorem dX2_copy_93 : decode cX2_copy 93 = .ok (.iconst 0, 1) := by decide +kernel
theorem dX2_copy_94 : decode cX2_copy 94 = .ok (.bipush 36, 2) := by decide +kernel
theorem dX2_copy_96 : decode cX2_copy 96 = .ok (.invokestatic 56, 3) := by decide +kernel
theorem dX2_copy_99 : decode cX2_copy 99 = .ok (.iconst 0, 1) := by decide +kernel
theorem dX2_copy_100 : decode cX2_copy 100 = .ok (.istore_n 2, 1) := by decide +kernel
theorem dX2_copy_101 : decode cX2_copy 101 = .ok (.iload_n 2, 1) := by decide +kernel
theorem dX2_copy_102 : decode cX2_copy 102 = .ok (.aload_n 1, 1) := by decide +kernel
theorem dX2_copy_103 : decode cX2_copy 103 = .ok (.getfield 44, 3) := by decide +kernel
theorem dX2_copy_106 : decode cX2_copy 106 = .ok (.if_icmp .ge 30, 3) := by decide +kernel
theorem dX2_copy_109 : decode cX2_copy 109 = .ok (.iload_n 2, 1) := by decide +kernel
theorem dX2_copy_110 : decode cX2_copy 110 = .ok (.bipush 12, 2) := by decide +kernel
theorem dX2_copy_112 : decode cX2_copy 112 = .ok (.if_icmp .gt 24, 3) := by decide +kernel
theorem dX2_copy_115 : decode cX2_copy 115 = .ok (.aload_n 0, 1) := by decide +kernel
theorem dX2_copy_116 : decode cX2_copy 116 = .ok (.getfield 23, 3) := by decide +kernel
theorem dX2_copy_119 : decode cX2_copy 119 = .ok (.iload_n 2, 1) := by decide +kernel
theorem dX2_copy_120 : decode cX2_copy 120 = .ok (.aaload, 1) := by decide +kernel
theorem dX2_copy_121 : decode cX2_copy 121 = .ok (.aload_n 1, 1) := by decide +kernel
theorem dX2_copy_122 : decode cX2_copy 122 = .ok (.getfield 23, 3) := by decide +kernel
theorem dX2_copy_125 : decode cX2_copy 125 = .ok (.iload_n 2, 1) := by decide +kernel
theorem dX2_copy_126 : decode cX2_copy 126 = .ok (.aaload, 1) := by decide +kernel
theorem dX2_copy_127 : decode cX2_copy 127 = .ok (.invokevirtual 62, 3) := by decide +kernel
theorem dX2_copy_130 : decode cX2_copy 130 = .ok (.iinc 2 1, 3) := by decide +kernel
theorem dX2_copy_133 : decode cX2_copy 133 = .ok (.goto (-32), 3) := by decide +kernel
theorem dX2_copy_136 : decode cX2_copy 136 = .ok (.return_, 1) := by decide +kernel
theorem dX2_isTold_0 : decode cX2_isTold 0 = .ok (.aload_n 0, 1) := by decide +kernel
theorem dX2_isTold_1 : decode cX2_isTold 1 = .ok (.getfield 28, 3) := by decide +kernel
theorem dX2_isTold_4 : decode cX2_isTold 4 = .ok (.ifCond .le 7, 3) := by decide +kernel
theorem dX2_isTold_7 : decode cX2_isTold 7 = .ok (.iconst 1, 1) := by decide +kernel
theorem dX2_isTold_8 : decode cX2_isTold 8 = .ok (.goto 4, 3) := by decide +kernel
theorem dX2_isTold_11 : decode cX2_isTold 11 = .ok (.iconst 0, 1) := by decide +kernel
theorem dX2_isTold_12 : decode cX2_isTold 12 = .ok (.ireturn, 1) := by decide +kernel
theorem dX2_hasGap_0 : decode cX2_hasGap 0 = .ok (.iload_n 1, 1) := by decide +kernel
theorem dX2_hasGap_1 : decode cX2_hasGap 1 = .ok (.ifCond .lt 15, 3) := by decide +kernel
theorem dX2_hasGap_4 : decode cX2_hasGap 4 = .ok (.iload_n 1, 1) := by decide +kernel
theorem dX2_hasGap_5 : decode cX2_hasGap 5 = .ok (.aload_n 0, 1) := by decide +kernel
theorem dX2_hasGap_6 : decode cX2_hasGap 6 = .ok (.getfield 32, 3) := by decide +kernel
theorem dX2_hasGap_9 : decode cX2_hasGap 9 = .ok (.if_icmp .ge 7, 3) := by decide +kernel
theorem dX2_hasGap_12 : decode cX2_hasGap 12 = .ok (.iconst 1, 1) := by decide +kernel
theorem dX2_hasGap_13 : decode cX2_hasGap 13 = .ok (.goto 4, 3) := by decide +kernel
theorem dX2_hasGap_16 : decode cX2_hasGap 16 = .ok (.iconst 0, 1) := by decide +kernel
theorem dX2_hasGap_17 : decode cX2_hasGap 17 = .ok (.ireturn, 1) := by decide +kernel
theorem dX2_hasDay_0 : decode cX2_hasDay 0 = .ok (.iload_n 1, 1) := by decide +kernel
theorem dX2_hasDay_1 : decode cX2_hasDay 1 = .ok (.ifCond .lt 15, 3) := by decide +kernel
theorem dX2_hasDay_4 : decode cX2_hasDay 4 = .ok (.iload_n 1, 1) := by decide +kernel
theorem dX2_hasDay_5 : decode cX2_hasDay 5 = .ok (.aload_n 0, 1) := by decide +kernel
theorem dX2_hasDay_6 : decode cX2_hasDay 6 = .ok (.getfield 35, 3) := by decide +kernel
theorem dX2_hasDay_9 : decode cX2_hasDay 9 = .ok (.if_icmp .ge 7, 3) := by decide +kernel
theorem dX2_hasDay_12 : decode cX2_hasDay 12 = .ok (.iconst 1, 1) := by decide +kernel
theorem dX2_hasDay_13 : decode cX2_hasDay 13 = .ok (.goto 4, 3) := by decide +kernel
theorem dX2_hasDay_16 : decode cX2_hasDay 16 = .ok (.iconst 0, 1) := by decide +kernel
theorem dX2_hasDay_17 : decode cX2_hasDay 17 = .ok (.ireturn, 1) := by decide +kernel
theorem dX2_hasOwner_0 : decode cX2_hasOwner 0 = .ok (.iload_n 1, 1) := by decide +kernel
theorem dX2_hasOwner_1 : decode cX2_hasOwner 1 = .ok (.ifCond .lt 15, 3) := by decide +kernel
theorem dX2_hasOwner_4 : decode cX2_hasOwner 4 = .ok (.iload_n 1, 1) := by decide +kernel
theorem dX2_hasOwner_5 : decode cX2_hasOwner 5 = .ok (.aload_n 0, 1) := by decide +kernel
theorem dX2_hasOwner_6 : decode cX2_hasOwner 6 = .ok (.getfield 38, 3) := by decide +kernel
theorem dX2_hasOwner_9 : decode cX2_hasOwner 9 = .ok (.if_icmp .ge 7, 3) := by decide +kernel
theorem dX2_hasOwner_12 : decode cX2_hasOwner 12 = .ok (.iconst 1, 1) := by decide +kernel
theorem dX2_hasOwner_13 : decode cX2_hasOwner 13 = .ok (.goto 4, 3) := by decide +kernel
theorem dX2_hasOwner_16 : decode cX2_hasOwner 16 = .ok (.iconst 0, 1) := by decide +kernel
theorem dX2_hasOwner_17 : decode cX2_hasOwner 17 = .ok (.ireturn, 1) := by decide +kernel
theorem dX2_hasDrive_0 : decode cX2_hasDrive 0 = .ok (.iload_n 1, 1) := by decide +kernel
theorem dX2_hasDrive_1 : decode cX2_hasDrive 1 = .ok (.ifCond .lt 15, 3) := by decide +kernel
theorem dX2_hasDrive_4 : decode cX2_hasDrive 4 = .ok (.iload_n 1, 1) := by decide +kernel
theorem dX2_hasDrive_5 : decode cX2_hasDrive 5 = .ok (.aload_n 0, 1) := by decide +kernel
theorem dX2_hasDrive_6 : decode cX2_hasDrive 6 = .ok (.getfield 44, 3) := by decide +kernel
theorem dX2_hasDrive_9 : decode cX2_hasDrive 9 = .ok (.if_icmp .ge 7, 3) := by decide +kernel
theorem dX2_hasDrive_12 : decode cX2_hasDrive 12 = .ok (.iconst 1, 1) := by decide +kernel
theorem dX2_hasDrive_13 : decode cX2_hasDrive 13 = .ok (.goto 4, 3) := by decide +kernel
theorem dX2_hasDrive_16 : decode cX2_hasDrive 16 = .ok (.iconst 0, 1) := by decide +kernel
theorem dX2_hasDrive_17 : decode cX2_hasDrive 17 = .ok (.ireturn, 1) := by decide +kernel
theorem dX3_init_0 : decode cX3_init 0 = .ok (.aload_n 0, 1) := by decide +kernel
theorem dX3_init_1 : decode cX3_init 1 = .ok (.invokespecial 3, 3) := by decide +kernel
theorem dX3_init_4 : decode cX3_init 4 = .ok (.aload_n 0, 1) := by decide +kernel
theorem dX3_init_5 : decode cX3_init 5 = .ok (.bipush 6, 2) := by decide +kernel
theorem dX3_init_7 : decode cX3_init 7 = .ok (.newarray .int, 2) := by decide +kernel
theorem dX3_init_9 : decode cX3_init 9 = .ok (.putfield 9, 3) := by decide +kernel
theorem dX3_init_12 : decode cX3_init 12 = .ok (.aload_n 0, 1) := by decide +kernel
theorem dX3_init_13 : decode cX3_init 13 = .ok (.bipush 6, 2) := by decide +kernel
theorem dX3_init_15 : decode cX3_init 15 = .ok (.newarray .int, 2) := by decide +kernel
theorem dX3_init_17 : decode cX3_init 17 = .ok (.putfield 15, 3) := by decide +kernel
theorem dX3_init_20 : decode cX3_init 20 = .ok (.aload_n 0, 1) := by decide +kernel
theorem dX3_init_21 : decode cX3_init 21 = .ok (.bipush 12, 2) := by decide +kernel
theorem dX3_init_23 : decode cX3_init 23 = .ok (.newarray .int, 2) := by decide +kernel
theorem dX3_init_25 : decode cX3_init 25 = .ok (.putfield 18, 3) := by decide +kernel
theorem dX3_init_28 : decode cX3_init 28 = .ok (.aload_n 0, 1) := by decide +kernel
theorem dX3_init_29 : decode cX3_init 29 = .ok (.aload_n 1, 1) := by decide +kernel
theorem dX3_init_30 : decode cX3_init 30 = .ok (.putfield 21, 3) := by decide +kernel
theorem dX3_init_33 : decode cX3_init 33 = .ok (.return_, 1) := by decide +kernel
theorem dX4_init_0 : decode cX4_init 0 = .ok (.aload_n 0, 1) := by decide +kernel
theorem dX4_init_1 : decode cX4_init 1 = .ok (.invokespecial 3, 3) := by decide +kernel
theorem dX4_init_4 : decode cX4_init 4 = .ok (.aload_n 0, 1) := by decide +kernel
theorem dX4_init_5 : decode cX4_init 5 = .ok (.new 9, 3) := by decide +kernel
theorem dX4_init_8 : decode cX4_init 8 = .ok (.dup, 1) := by decide +kernel
theorem dX4_init_9 : decode cX4_init 9 = .ok (.invokespecial 11, 3) := by decide +kernel
theorem dX4_init_12 : decode cX4_init 12 = .ok (.putfield 12, 3) := by decide +kernel
theorem dX4_init_15 : decode cX4_init 15 = .ok (.aload_n 0, 1) := by decide +kernel
theorem dX4_init_16 : decode cX4_init 16 = .ok (.sipush 216, 3) := by decide +kernel
theorem dX4_init_19 : decode cX4_init 19 = .ok (.newarray .int, 2) := by decide +kernel
theorem dX4_init_21 : decode cX4_init 21 = .ok (.putfield 18, 3) := by decide +kernel
theorem dX4_init_24 : decode cX4_init 24 = .ok (.aload_n 0, 1) := by decide +kernel
theorem dX4_init_25 : decode cX4_init 25 = .ok (.aload_n 1, 1) := by decide +kernel
theorem dX4_init_26 : decode cX4_init 26 = .ok (.putfield 22, 3) := by decide +kernel
theorem dX4_init_29 : decode cX4_init 29 = .ok (.return_, 1) := by decide +kernel
theorem dX5_init_0 : decode cX5_init 0 = .ok (.aload_n 0, 1) := by decide +kernel
theorem dX5_init_1 : decode cX5_init 1 = .ok (.invokespecial 3, 3) := by decide +kernel
theorem dX5_init_4 : decode cX5_init 4 = .ok (.aload_n 0, 1) := by decide +kernel
theorem dX5_init_5 : decode cX5_init 5 = .ok (.iconst (-1), 1) := by decide +kernel
theorem dX5_init_6 : decode cX5_init 6 = .ok (.putfield 9, 3) := by decide +kernel
theorem dX5_init_9 : decode cX5_init 9 = .ok (.aload_n 0, 1) := by decide +kernel
theorem dX5_init_10 : decode cX5_init 10 = .ok (.aload_n 1, 1) := by decide +kernel
theorem dX5_init_11 : decode cX5_init 11 = .ok (.putfield 15, 3) := by decide +kernel
theorem dX5_init_14 : decode cX5_init 14 = .ok (.aload_n 0, 1) := by decide +kernel
theorem dX5_init_15 : decode cX5_init 15 = .ok (.aload_n 2, 1) := by decide +kernel
theorem dX5_init_16 : decode cX5_init 16 = .ok (.putfield 19, 3) := by decide +kernel
theorem dX5_init_19 : decode cX5_init 19 = .ok (.return_, 1) := by decide +kernel
theorem dX5_begin_0 : decode cX5_begin 0 = .ok (.aload_n 0, 1) := by decide +kernel
theorem dX5_begin_1 : decode cX5_begin 1 = .ok (.iconst 0, 1) := by decide +kernel
theorem dX5_begin_2 : decode cX5_begin 2 = .ok (.putfield 23, 3) := by decide +kernel
theorem dX5_begin_5 : decode cX5_begin 5 = .ok (.aload_n 0, 1) := by decide +kernel
theorem dX5_begin_6 : decode cX5_begin 6 = .ok (.iconst (-1), 1) := by decide +kernel
theorem dX5_begin_7 : decode cX5_begin 7 = .ok (.putfield 9, 3) := by decide +kernel
theorem dX5_begin_10 : decode cX5_begin 10 = .ok (.aload_n 0, 1) := by decide +kernel
theorem dX5_begin_11 : decode cX5_begin 11 = .ok (.iconst 0, 1) := by decide +kernel
theorem dX5_begin_12 : decode cX5_begin 12 = .ok (.putfield 26, 3) := by decide +kernel
theorem dX5_begin_15 : decode cX5_begin 15 = .ok (.aload_n 0, 1) := by decide +kernel
theorem dX5_begin_16 : decode cX5_begin 16 = .ok (.iconst 0, 1) := by decide +kernel
theorem dX5_begin_17 : decode cX5_begin 17 = .ok (.putfield 30, 3) := by decide +kernel
theorem dX5_begin_20 : decode cX5_begin 20 = .ok (.aload_n 0, 1) := by decide +kernel
theorem dX5_begin_21 : decode cX5_begin 21 = .ok (.getfield 19, 3) := by decide +kernel
theorem dX5_begin_24 : decode cX5_begin 24 = .ok (.invokevirtual 33, 3) := by decide +kernel
theorem dX5_begin_27 : decode cX5_begin 27 = .ok (.aload_n 0, 1) := by decide +kernel
theorem dX5_begin_28 : decode cX5_begin 28 = .ok (.invokevirtual 38, 3) := by decide +kernel
theorem dX5_begin_31 : decode cX5_begin 31 = .ok (.return_, 1) := by decide +kernel
theorem dX5_hasMore_0 : decode cX5_hasMore 0 = .ok (.aload_n 0, 1) := by decide +kernel
theorem dX5_hasMore_1 : decode cX5_hasMore 1 = .ok (.getfield 23, 3) := by decide +kernel
theorem dX5_hasMore_4 : decode cX5_hasMore 4 = .ok (.ifCond .ne 14, 3) := by decide +kernel
theorem dX5_hasMore_7 : decode cX5_hasMore 7 = .ok (.aload_n 0, 1) := by decide +kernel
theorem dX5_hasMore_8 : decode cX5_hasMore 8 = .ok (.getfield 41, 3) := by decide +kernel
theorem dX5_hasMore_11 : decode cX5_hasMore 11 = .ok (.ifCond .eq 7, 3) := by decide +kernel
theorem dX5_hasMore_14 : decode cX5_hasMore 14 = .ok (.iconst 1, 1) := by decide +kernel
theorem dX5_hasMore_15 : decode cX5_hasMore 15 = .ok (.goto 4, 3) := by decide +kernel
theorem dX5_hasMore_18 : decode cX5_hasMore 18 = .ok (.iconst 0, 1) := by decide +kernel
theorem dX5_hasMore_19 : decode cX5_hasMore 19 = .ok (.ireturn, 1) := by decide +kernel
theorem dX5_step_0 : decode cX5_step 0 = .ok (.aload_n 0, 1) := by decide +kernel
theorem dX5_step_1 : decode cX5_step 1 = .ok (.getfield 15, 3) := by decide +kernel
theorem dX5_step_4 : decode cX5_step 4 = .ok (.getfield 47, 3) := by decide +kernel
theorem dX5_step_7 : decode cX5_step 7 = .ok (.astore_n 1, 1) := by decide +kernel
theorem dX5_step_8 : decode cX5_step 8 = .ok (.aload_n 0, 1) := by decide +kernel
theorem dX5_step_9 : decode cX5_step 9 = .ok (.getfield 15, 3) := by decide +kernel
theorem dX5_step_12 : decode cX5_step 12 = .ok (.getfield 53, 3) := by decide +kernel
theorem dX5_step_15 : decode cX5_step 15 = .ok (.sipush 1600, 3) := by decide +kernel
theorem dX5_step_18 : decode cX5_step 18 = .ok (.invokestatic 56, 3) := by decide +kernel
theorem dX5_step_21 : decode cX5_step 21 = .ok (.istore_n 2, 1) := by decide +kernel
theorem dX5_step_22 : decode cX5_step 22 = .ok (.aload_n 0, 1) := by decide +kernel
theorem dX5_step_23 : decode cX5_step 23 = .ok (.getfield 30, 3) := by decide +kernel
theorem dX5_step_26 : decode cX5_step 26 = .ok (.iload_n 2, 1) := by decide +kernel
theorem dX5_step_27 : decode cX5_step 27 = .ok (.if_icmp .ge 28, 3) := by decide +kernel
theorem dX5_step_30 : decode cX5_step 30 = .ok (.aload_n 1, 1) := by decide +kernel
theorem dX5_step_31 : decode cX5_step 31 = .ok (.aload_n 0, 1) := by decide +kernel
theorem dX5_step_32 : decode cX5_step 32 = .ok (.getfield 30, 3) := by decide +kernel
theorem dX5_step_35 : decode cX5_step 35 = .ok (.baload, 1) := by decide +kernel
theorem dX5_step_36 : decode cX5_step 36 = .ok (.invokestatic 62, 3) := by decide +kernel
theorem dX5_step_39 : decode cX5_step 39 = .ok (.ifCond .eq 16, 3) := by decide +kernel
theorem dX5_step_42 : decode cX5_step 42 = .ok (.aload_n 0, 1) := by decide +kernel
theorem dX5_step_43 : decode cX5_step 43 = .ok (.dup, 1) := by decide +kernel
theorem dX5_step_44 : decode cX5_step 44 = .ok (.getfield 30, 3) := by decide +kernel
theorem dX5_step_47 : decode cX5_step 47 = .ok (.iconst 1, 1) := by decide +kernel
theorem dX5_step_48 : decode cX5_step 48 = .ok (.iadd, 1) := by decide +kernel
theorem dX5_step_49 : decode cX5_step 49 = .ok (.putfield 30, 3) := by decide +kernel
theorem dX5_step_52 : decode cX5_step 52 = .ok (.goto (-30), 3) := by decide +kernel
theorem dX5_step_55 : decode cX5_step 55 = .ok (.aload_n 0, 1) := by decide +kernel
theorem dX5_step_56 : decode cX5_step 56 = .ok (.aload_n 0, 1) := by decide +kernel
theorem dX5_step_57 : decode cX5_step 57 = .ok (.getfield 30, 3) := by decide +kernel
theorem dX5_step_60 : decode cX5_step 60 = .ok (.putfield 44, 3) := by decide +kernel
theorem dX5_step_63 : decode cX5_step 63 = .ok (.aload_n 0, 1) := by decide +kernel
theorem dX5_step_64 : decode cX5_step 64 = .ok (.getfield 44, 3) := by decide +kernel
theorem dX5_step_67 : decode cX5_step 67 = .ok (.iload_n 2, 1) := by decide +kernel
theorem dX5_step_68 : decode cX5_step 68 = .ok (.if_icmp .lt 11, 3) := by decide +kernel
theorem dX5_step_71 : decode cX5_step 71 = .ok (.aload_n 0, 1) := by decide +kernel
theorem dX5_step_72 : decode cX5_step 72 = .ok (.iconst 0, 1) := by decide +kernel
theorem dX5_step_73 : decode cX5_step 73 = .ok (.putfield 41, 3) := by decide +kernel
theorem dX5_step_76 : decode cX5_step 76 = .ok (.goto 164, 3) := by decide +kernel
theorem dX5_step_79 : decode cX5_step 79 = .ok (.aload_n 1, 1) := by decide +kernel
theorem dX5_step_80 : decode cX5_step 80 = .ok (.aload_n 0, 1) := by decide +kernel
theorem dX5_step_81 : decode cX5_step 81 = .ok (.getfield 44, 3) := by decide +kernel
theorem dX5_step_84 : decode cX5_step 84 = .ok (.baload, 1) := by decide +kernel
theorem dX5_step_85 : decode cX5_step 85 = .ok (.invokestatic 66, 3) := by decide +kernel
theorem dX5_step_88 : decode cX5_step 88 = .ok (.ifCond .eq 41, 3) := by decide +kernel
theorem dX5_step_91 : decode cX5_step 91 = .ok (.aload_n 0, 1) := by decide +kernel
theorem dX5_step_92 : decode cX5_step 92 = .ok (.iconst 1, 1) := by decide +kernel
theorem dX5_step_93 : decode cX5_step 93 = .ok (.putfield 41, 3) := by decide +kernel
theorem dX5_step_96 : decode cX5_step 96 = .ok (.aload_n 0, 1) := by decide +kernel
theorem dX5_step_97 : decode cX5_step 97 = .ok (.getfield 30, 3) := by decide +kernel
theorem dX5_step_100 : decode cX5_step 100 = .ok (.iload_n 2, 1) := by decide +kernel
theorem dX5_step_101 : decode cX5_step 101 = .ok (.if_icmp .ge 139, 3) := by decide +kernel
theorem dX5_step_104 : decode cX5_step 104 = .ok (.aload_n 1, 1) := by decide +kernel
theorem dX5_step_105 : decode cX5_step 105 = .ok (.aload_n 0, 1) := by decide +kernel
theorem dX5_step_106 : decode cX5_step 106 = .ok (.getfield 30, 3) := by decide +kernel
theorem dX5_step_109 : decode cX5_step 109 = .ok (.baload, 1) := by decide +kernel
theorem dX5_step_110 : decode cX5_step 110 = .ok (.invokestatic 66, 3) := by decide +kernel
theorem dX5_step_113 : decode cX5_step 113 = .ok (.ifCond .eq 127, 3) := by decide +kernel
theorem dX5_step_116 : decode cX5_step 116 = .ok (.aload_n 0, 1) := by decide +kernel
theorem dX5_step_117 : decode cX5_step 117 = .ok (.dup, 1) := by decide +kernel
theorem dX5_step_118 : decode cX5_step 118 = .ok (.getfield 30, 3) := by decide +kernel
theorem dX5_step_121 : decode cX5_step 121 = .ok (.iconst 1, 1) := by decide +kernel
theorem dX5_step_122 : decode cX5_step 122 = .ok (.iadd, 1) := by decide +kernel
theorem dX5_step_123 : decode cX5_step 123 = .ok (.putfield 30, 3) := by decide +kernel
theorem dX5_step_126 : decode cX5_step 126 = .ok (.goto (-30), 3) := by decide +kernel
theorem dX5_step_129 : decode cX5_step 129 = .ok (.aload_n 1, 1) := by decide +kernel
theorem dX5_step_130 : decode cX5_step 130 = .ok (.aload_n 0, 1) := by decide +kernel
theorem dX5_step_131 : decode cX5_step 131 = .ok (.getfield 44, 3) := by decide +kernel
theorem dX5_step_134 : decode cX5_step 134 = .ok (.baload, 1) := by decide +kernel
theorem dX5_step_135 : decode cX5_step 135 = .ok (.invokestatic 69, 3) := by decide +kernel
theorem dX5_step_138 : decode cX5_step 138 = .ok (.ifCond .eq 72, 3) := by decide +kernel
theorem dX5_step_141 : decode cX5_step 141 = .ok (.aload_n 0, 1) := by decide +kernel
theorem dX5_step_142 : decode cX5_step 142 = .ok (.iconst 2, 1) := by decide +kernel
theorem dX5_step_143 : decode cX5_step 143 = .ok (.putfield 41, 3) := by decide +kernel
theorem dX5_step_146 : decode cX5_step 146 = .ok (.aload_n 0, 1) := by decide +kernel
theorem dX5_step_147 : decode cX5_step 147 = .ok (.iconst 0, 1) := by decide +kernel
theorem dX5_step_148 : decode cX5_step 148 = .ok (.putfield 72, 3) := by decide +kernel
theorem dX5_step_151 : decode cX5_step 151 = .ok (.aload_n 0, 1) := by decide +kernel
theorem dX5_step_152 : decode cX5_step 152 = .ok (.getfield 30, 3) := by decide +kernel
theorem dX5_step_155 : decode cX5_step 155 = .ok (.iload_n 2, 1) := by decide +kernel
theorem dX5_step_156 : decode cX5_step 156 = .ok (.if_icmp .ge 84, 3) := by decide +kernel
theorem dX5_step_159 : decode cX5_step 159 = .ok (.aload_n 1, 1) := by decide +kernel
theorem dX5_step_160 : decode cX5_step 160 = .ok (.aload_n 0, 1) := by decide +kernel
theorem dX5_step_161 : decode cX5_step 161 = .ok (.getfield 30, 3) := by decide +kernel
theorem dX5_step_164 : decode cX5_step 164 = .ok (.baload, 1) := by decide +kernel
theorem dX5_step_165 : decode cX5_step 165 = .ok (.invokestatic 69, 3) := by decide +kernel
theorem dX5_step_168 : decode cX5_step 168 = .ok (.ifCond .eq 72, 3) := by decide +kernel
theorem dX5_step_171 : decode cX5_step 171 = .ok (.aload_n 0, 1) := by decide +kernel
theorem dX5_step_172 : decode cX5_step 172 = .ok (.ldc 75, 2) := by decide +kernel
theorem dX5_step_174 : decode cX5_step 174 = .ok (.bipush 10, 2) := by decide +kernel
theorem dX5_step_176 : decode cX5_step 176 = .ok (.aload_n 0, 1) := by decide +kernel
theorem dX5_step_177 : decode cX5_step 177 = .ok (.getfield 72, 3) := by decide +kernel
theorem dX5_step_180 : decode cX5_step 180 = .ok (.imul, 1) := by decide +kernel
theorem dX5_step_181 : decode cX5_step 181 = .ok (.aload_n 1, 1) := by decide +kernel
theorem dX5_step_182 : decode cX5_step 182 = .ok (.aload_n 0, 1) := by decide +kernel
theorem dX5_step_183 : decode cX5_step 183 = .ok (.getfield 30, 3) := by decide +kernel
theorem dX5_step_186 : decode cX5_step 186 = .ok (.baload, 1) := by decide +kernel
theorem dX5_step_187 : decode cX5_step 187 = .ok (.iadd, 1) := by decide +kernel
theorem dX5_step_188 : decode cX5_step 188 = .ok (.bipush 48, 2) := by decide +kernel
theorem dX5_step_190 : decode cX5_step 190 = .ok (.isub, 1) := by decide +kernel
theorem dX5_step_191 : decode cX5_step 191 = .ok (.invokestatic 56, 3) := by decide +kernel
theorem dX5_step_194 : decode cX5_step 194 = .ok (.putfield 72, 3) := by decide +kernel
theorem dX5_step_197 : decode cX5_step 197 = .ok (.aload_n 0, 1) := by decide +kernel
theorem dX5_step_198 : decode cX5_step 198 = .ok (.dup, 1) := by decide +kernel
theorem dX5_step_199 : decode cX5_step 199 = .ok (.getfield 30, 3) := by decide +kernel
theorem dX5_step_202 : decode cX5_step 202 = .ok (.iconst 1, 1) := by decide +kernel
theorem dX5_step_203 : decode cX5_step 203 = .ok (.iadd, 1) := by decide +kernel
theorem dX5_step_204 : decode cX5_step 204 = .ok (.putfield 30, 3) := by decide +kernel
theorem dX5_step_207 : decode cX5_step 207 = .ok (.goto (-56), 3) := by decide +kernel
theorem dX5_step_210 : decode cX5_step 210 = .ok (.aload_n 0, 1) := by decide +kernel
theorem dX5_step_211 : decode cX5_step 211 = .ok (.aload_n 1, 1) := by decide +kernel
theorem dX5_step_212 : decode cX5_step 212 = .ok (.aload_n 0, 1) := by decide +kernel
theorem dX5_step_213 : decode cX5_step 213 = .ok (.getfield 44, 3) := by decide +kernel
theorem dX5_step_216 : decode cX5_step 216 = .ok (.baload, 1) := by decide +kernel
theorem dX5_step_217 : decode cX5_step 217 = .ok (.bipush 59, 2) := by decide +kernel
theorem dX5_step_219 : decode cX5_step 219 = .ok (.if_icmp .ne 7, 3) := by decide +kernel
theorem dX5_step_222 : decode cX5_step 222 = .ok (.iconst 3, 1) := by decide +kernel
theorem dX5_step_223 : decode cX5_step 223 = .ok (.goto 4, 3) := by decide +kernel
theorem dX5_step_226 : decode cX5_step 226 = .ok (.iconst 4, 1) := by decide +kernel
theorem dX5_step_227 : decode cX5_step 227 = .ok (.putfield 41, 3) := by decide +kernel
theorem dX5_step_230 : decode cX5_step 230 = .ok (.aload_n 0, 1) := by decide +kernel
theorem dX5_step_231 : decode cX5_step 231 = .ok (.dup, 1) := by decide +kernel
theorem dX5_step_232 : decode cX5_step 232 = .ok (.getfield 30, 3) := by decide +kernel
theorem dX5_step_235 : decode cX5_step 235 = .ok (.iconst 1, 1) := by decide +kernel
theorem dX5_step_236 : decode cX5_step 236 = .ok (.iadd, 1) := by decide +kernel
theorem dX5_step_237 : decode cX5_step 237 = .ok (.putfield 30, 3) := by decide +kernel
theorem dX5_step_240 : decode cX5_step 240 = .ok (.return_, 1) := by decide +kernel
theorem dX6_init_0 : decode cX6_init 0 = .ok (.aload_n 0, 1) := by decide +kernel
theorem dX6_init_1 : decode cX6_init 1 = .ok (.invokespecial 3, 3) := by decide +kernel
theorem dX6_init_4 : decode cX6_init 4 = .ok (.aload_n 0, 1) := by decide +kernel
theorem dX6_init_5 : decode cX6_init 5 = .ok (.iconst 4, 1) := by decide +kernel
theorem dX6_init_6 : decode cX6_init 6 = .ok (.bipush 60, 2) := by decide +kernel
theorem dX6_init_8 : decode cX6_init 8 = .ok (.multianewarray 9 2, 4) := by decide +kernel
theorem dX6_init_12 : decode cX6_init 12 = .ok (.putfield 11, 3) := by decide +kernel
theorem dX6_init_15 : decode cX6_init 15 = .ok (.aload_n 0, 1) := by decide +kernel
theorem dX6_init_16 : decode cX6_init 16 = .ok (.iconst 4, 1) := by decide +kernel
theorem dX6_init_17 : decode cX6_init 17 = .ok (.newarray .int, 2) := by decide +kernel
theorem dX6_init_19 : decode cX6_init 19 = .ok (.putfield 16, 3) := by decide +kernel
theorem dX6_init_22 : decode cX6_init 22 = .ok (.aload_n 0, 1) := by decide +kernel
theorem dX6_init_23 : decode cX6_init 23 = .ok (.iconst 4, 1) := by decide +kernel
theorem dX6_init_24 : decode cX6_init 24 = .ok (.newarray .int, 2) := by decide +kernel
theorem dX6_init_26 : decode cX6_init 26 = .ok (.putfield 20, 3) := by decide +kernel
theorem dX6_init_29 : decode cX6_init 29 = .ok (.aload_n 0, 1) := by decide +kernel
theorem dX6_init_30 : decode cX6_init 30 = .ok (.getfield 20, 3) := by decide +kernel
theorem dX6_init_33 : decode cX6_init 33 = .ok (.iconst (-1), 1) := by decide +kernel
theorem dX6_init_34 : decode cX6_init 34 = .ok (.invokestatic 23, 3) := by decide +kernel
theorem dX6_init_37 : decode cX6_init 37 = .ok (.return_, 1) := by decide +kernel
theorem dX6_isSlot_0 : decode cX6_isSlot 0 = .ok (.iload_n 0, 1) := by decide +kernel
theorem dX6_isSlot_1 : decode cX6_isSlot 1 = .ok (.ifCond .lt 12, 3) := by decide +kernel
theorem dX6_isSlot_4 : decode cX6_isSlot 4 = .ok (.iload_n 0, 1) := by decide +kernel
theorem dX6_isSlot_5 : decode cX6_isSlot 5 = .ok (.iconst 4, 1) := by decide +kernel
theorem dX6_isSlot_6 : decode cX6_isSlot 6 = .ok (.if_icmp .ge 7, 3) := by decide +kernel
theorem dX6_isSlot_9 : decode cX6_isSlot 9 = .ok (.iconst 1, 1) := by decide +kernel
theorem dX6_isSlot_10 : decode cX6_isSlot 10 = .ok (.goto 4, 3) := by decide +kernel
theorem dX6_isSlot_13 : decode cX6_isSlot 13 = .ok (.iconst 0, 1) := by decide +kernel
theorem dX6_isSlot_14 : decode cX6_isSlot 14 = .ok (.ireturn, 1) := by decide +kernel
theorem dX6_hasRow_0 : decode cX6_hasRow 0 = .ok (.aload_n 0, 1) := by decide +kernel
theorem dX6_hasRow_1 : decode cX6_hasRow 1 = .ok (.getfield 20, 3) := by decide +kernel
theorem dX6_hasRow_4 : decode cX6_hasRow 4 = .ok (.iload_n 1, 1) := by decide +kernel
theorem dX6_hasRow_5 : decode cX6_hasRow 5 = .ok (.iaload, 1) := by decide +kernel
theorem dX6_hasRow_6 : decode cX6_hasRow 6 = .ok (.iconst (-1), 1) := by decide +kernel
theorem dX6_hasRow_7 : decode cX6_hasRow 7 = .ok (.if_icmp .eq 7, 3) := by decide +kernel
theorem dX6_hasRow_10 : decode cX6_hasRow 10 = .ok (.iconst 1, 1) := by decide +kernel
theorem dX6_hasRow_11 : decode cX6_hasRow 11 = .ok (.goto 4, 3) := by decide +kernel
theorem dX6_hasRow_14 : decode cX6_hasRow 14 = .ok (.iconst 0, 1) := by decide +kernel
theorem dX6_hasRow_15 : decode cX6_hasRow 15 = .ok (.ireturn, 1) := by decide +kernel
theorem dX6_rows_0 : decode cX6_rows 0 = .ok (.iconst 0, 1) := by decide +kernel
theorem dX6_rows_1 : decode cX6_rows 1 = .ok (.istore_n 1, 1) := by decide +kernel
theorem dX6_rows_2 : decode cX6_rows 2 = .ok (.iconst 0, 1) := by decide +kernel
theorem dX6_rows_3 : decode cX6_rows 3 = .ok (.istore_n 2, 1) := by decide +kernel
theorem dX6_rows_4 : decode cX6_rows 4 = .ok (.iload_n 2, 1) := by decide +kernel
theorem dX6_rows_5 : decode cX6_rows 5 = .ok (.iconst 4, 1) := by decide +kernel
theorem dX6_rows_6 : decode cX6_rows 6 = .ok (.if_icmp .ge 20, 3) := by decide +kernel
theorem dX6_rows_9 : decode cX6_rows 9 = .ok (.aload_n 0, 1) := by decide +kernel
theorem dX6_rows_10 : decode cX6_rows 10 = .ok (.iload_n 2, 1) := by decide +kernel
theorem dX6_rows_11 : decode cX6_rows 11 = .ok (.invokevirtual 29, 3) := by decide +kernel
theorem dX6_rows_14 : decode cX6_rows 14 = .ok (.ifCond .eq 6, 3) := by decide +kernel
theorem dX6_rows_17 : decode cX6_rows 17 = .ok (.iinc 1 1, 3) := by decide +kernel
theorem dX6_rows_20 : decode cX6_rows 20 = .ok (.iinc 2 1, 3) := by decide +kernel
theorem dX6_rows_23 : decode cX6_rows 23 = .ok (.goto (-19), 3) := by decide +kernel
theorem dX6_rows_26 : decode cX6_rows 26 = .ok (.iload_n 1, 1) := by decide +kernel
theorem dX6_rows_27 : decode cX6_rows 27 = .ok (.ireturn, 1) := by decide +kernel
theorem dX6_lay_0 : decode cX6_lay 0 = .ok (.aload_n 0, 1) := by decide +kernel
theorem dX6_lay_1 : decode cX6_lay 1 = .ok (.getfield 11, 3) := by decide +kernel
theorem dX6_lay_4 : decode cX6_lay 4 = .ok (.iload_n 1, 1) := by decide +kernel
theorem dX6_lay_5 : decode cX6_lay 5 = .ok (.aaload, 1) := by decide +kernel
theorem dX6_lay_6 : decode cX6_lay 6 = .ok (.lconst 0, 1) := by decide +kernel
theorem dX6_lay_7 : decode cX6_lay 7 = .ok (.invokestatic 33, 3) := by decide +kernel
theorem dX6_lay_10 : decode cX6_lay 10 = .ok (.aload_n 0, 1) := by decide +kernel
theorem dX6_lay_11 : decode cX6_lay 11 = .ok (.getfield 16, 3) := by decide +kernel
theorem dX6_lay_14 : decode cX6_lay 14 = .ok (.iload_n 1, 1) := by decide +kernel
theorem dX6_lay_15 : decode cX6_lay 15 = .ok (.iload_n 2, 1) := by decide +kernel
theorem dX6_lay_16 : decode cX6_lay 16 = .ok (.iastore, 1) := by decide +kernel
theorem dX6_lay_17 : decode cX6_lay 17 = .ok (.aload_n 0, 1) := by decide +kernel
theorem dX6_lay_18 : decode cX6_lay 18 = .ok (.getfield 20, 3) := by decide +kernel
theorem dX6_lay_21 : decode cX6_lay 21 = .ok (.iload_n 1, 1) := by decide +kernel
theorem dX6_lay_22 : decode cX6_lay 22 = .ok (.iload_n 3, 1) := by decide +kernel
theorem dX6_lay_23 : decode cX6_lay 23 = .ok (.iastore, 1) := by decide +kernel
theorem dX6_lay_24 : decode cX6_lay 24 = .ok (.return_, 1) := by decide +kernel
theorem dX7_init_0 : decode cX7_init 0 = .ok (.aload_n 0, 1) := by decide +kernel
theorem dX7_init_1 : decode cX7_init 1 = .ok (.invokespecial 3, 3) := by decide +kernel
theorem dX7_init_4 : decode cX7_init 4 = .ok (.aload_n 0, 1) := by decide +kernel
theorem dX7_init_5 : decode cX7_init 5 = .ok (.sipush 1600, 3) := by decide +kernel
theorem dX7_init_8 : decode cX7_init 8 = .ok (.newarray .byte, 2) := by decide +kernel
theorem dX7_init_10 : decode cX7_init 10 = .ok (.putfield 9, 3) := by decide +kernel
theorem dX7_init_13 : decode cX7_init 13 = .ok (.return_, 1) := by decide +kernel
theorem dX7_append_0 : decode cX7_append 0 = .ok (.bipush 24, 2) := by decide +kernel
theorem dX7_append_2 : decode cX7_append 2 = .ok (.istore_n 2, 1) := by decide +kernel
theorem dX7_append_3 : decode cX7_append 3 = .ok (.iload_n 2, 1) := by decide +kernel
theorem dX7_append_4 : decode cX7_append 4 = .ok (.ifCond .lt 42, 3) := by decide +kernel
theorem dX7_append_7 : decode cX7_append 7 = .ok (.aload_n 0, 1) := by decide +kernel
theorem dX7_append_8 : decode cX7_append 8 = .ok (.getfield 15, 3) := by decide +kernel
theorem dX7_append_11 : decode cX7_append 11 = .ok (.sipush 1600, 3) := by decide +kernel
theorem dX7_append_14 : decode cX7_append 14 = .ok (.if_icmp .ge 32, 3) := by decide +kernel
theorem dX7_append_17 : decode cX7_append 17 = .ok (.aload_n 0, 1) := by decide +kernel
theorem dX7_append_18 : decode cX7_append 18 = .ok (.getfield 9, 3) := by decide +kernel
theorem dX7_append_21 : decode cX7_append 21 = .ok (.aload_n 0, 1) := by decide +kernel
theorem dX7_append_22 : decode cX7_append 22 = .ok (.getfield 15, 3) := by decide +kernel
theorem dX7_append_25 : decode cX7_append 25 = .ok (.iload_n 1, 1) := by decide +kernel
theorem dX7_append_26 : decode cX7_append 26 = .ok (.iload_n 2, 1) := by decide +kernel
theorem dX7_append_27 : decode cX7_append 27 = .ok (.ishr, 1) := by decide +kernel
theorem dX7_append_28 : decode cX7_append 28 = .ok (.i2b, 1) := by decide +kernel
theorem dX7_append_29 : decode cX7_append 29 = .ok (.bastore, 1) := by decide +kernel
theorem dX7_append_30 : decode cX7_append 30 = .ok (.aload_n 0, 1) := by decide +kernel
theorem dX7_append_31 : decode cX7_append 31 = .ok (.dup, 1) := by decide +kernel
theorem dX7_append_32 : decode cX7_append 32 = .ok (.getfield 15, 3) := by decide +kernel
theorem dX7_append_35 : decode cX7_append 35 = .ok (.iconst 1, 1) := by decide +kernel
theorem dX7_append_36 : decode cX7_append 36 = .ok (.iadd, 1) := by decide +kernel
theorem dX7_append_37 : decode cX7_append 37 = .ok (.putfield 15, 3) := by decide +kernel
theorem dX7_append_40 : decode cX7_append 40 = .ok (.iinc 2 (-8), 3) := by decide +kernel
theorem dX7_append_43 : decode cX7_append 43 = .ok (.goto (-40), 3) := by decide +kernel
theorem dX7_append_46 : decode cX7_append 46 = .ok (.return_, 1) := by decide +kernel
theorem dX8_init_0 : decode cX8_init 0 = .ok (.aload_n 0, 1) := by decide +kernel
theorem dX8_init_1 : decode cX8_init 1 = .ok (.invokespecial 3, 3) := by decide +kernel
theorem dX8_init_4 : decode cX8_init 4 = .ok (.aload_n 0, 1) := by decide +kernel
theorem dX8_init_5 : decode cX8_init 5 = .ok (.bipush 13, 2) := by decide +kernel
theorem dX8_init_7 : decode cX8_init 7 = .ok (.newarray .int, 2) := by decide +kernel
theorem dX8_init_9 : decode cX8_init 9 = .ok (.putfield 9, 3) := by decide +kernel
theorem dX8_init_12 : decode cX8_init 12 = .ok (.aload_n 0, 1) := by decide +kernel
theorem dX8_init_13 : decode cX8_init 13 = .ok (.iconst 4, 1) := by decide +kernel
theorem dX8_init_14 : decode cX8_init 14 = .ok (.newarray .int, 2) := by decide +kernel
theorem dX8_init_16 : decode cX8_init 16 = .ok (.putfield 15, 3) := by decide +kernel
theorem dX8_init_19 : decode cX8_init 19 = .ok (.aload_n 0, 1) := by decide +kernel
theorem dX8_init_20 : decode cX8_init 20 = .ok (.iconst 4, 1) := by decide +kernel
theorem dX8_init_21 : decode cX8_init 21 = .ok (.newarray .int, 2) := by decide +kernel
theorem dX8_init_23 : decode cX8_init 23 = .ok (.putfield 18, 3) := by decide +kernel
theorem dX8_init_26 : decode cX8_init 26 = .ok (.aload_n 0, 1) := by decide +kernel
theorem dX8_init_27 : decode cX8_init 27 = .ok (.iconst 5, 1) := by decide +kernel
theorem dX8_init_28 : decode cX8_init 28 = .ok (.newarray .int, 2) := by decide +kernel
theorem dX8_init_30 : decode cX8_init 30 = .ok (.putfield 21, 3) := by decide +kernel
theorem dX8_init_33 : decode cX8_init 33 = .ok (.return_, 1) := by decide +kernel
theorem dX9_init_0 : decode cX9_init 0 = .ok (.aload_n 0, 1) := by decide +kernel
theorem dX9_init_1 : decode cX9_init 1 = .ok (.invokespecial 1, 3) := by decide +kernel
theorem dX9_init_4 : decode cX9_init 4 = .ok (.aload_n 0, 1) := by decide +kernel
theorem dX9_init_5 : decode cX9_init 5 = .ok (.new 7, 3) := by decide +kernel
theorem dX9_init_8 : decode cX9_init 8 = .ok (.dup, 1) := by decide +kernel
theorem dX9_init_9 : decode cX9_init 9 = .ok (.invokespecial 9, 3) := by decide +kernel
theorem dX9_init_12 : decode cX9_init 12 = .ok (.putfield 10, 3) := by decide +kernel
theorem dX9_init_15 : decode cX9_init 15 = .ok (.aload_n 0, 1) := by decide +kernel
theorem dX9_init_16 : decode cX9_init 16 = .ok (.new 16, 3) := by decide +kernel
theorem dX9_init_19 : decode cX9_init 19 = .ok (.dup, 1) := by decide +kernel
theorem dX9_init_20 : decode cX9_init 20 = .ok (.invokespecial 18, 3) := by decide +kernel
theorem dX9_init_23 : decode cX9_init 23 = .ok (.putfield 19, 3) := by decide +kernel
theorem dX9_init_26 : decode cX9_init 26 = .ok (.aload_n 0, 1) := by decide +kernel
theorem dX9_init_27 : decode cX9_init 27 = .ok (.new 16, 3) := by decide +kernel
theorem dX9_init_30 : decode cX9_init 30 = .ok (.dup, 1) := by decide +kernel
theorem dX9_init_31 : decode cX9_init 31 = .ok (.invokespecial 18, 3) := by decide +kernel
theorem dX9_init_34 : decode cX9_init 34 = .ok (.putfield 23, 3) := by decide +kernel
theorem dX9_init_37 : decode cX9_init 37 = .ok (.aload_n 0, 1) := by decide +kernel
theorem dX9_init_38 : decode cX9_init 38 = .ok (.new 26, 3) := by decide +kernel
theorem dX9_init_41 : decode cX9_init 41 = .ok (.dup, 1) := by decide +kernel
theorem dX9_init_42 : decode cX9_init 42 = .ok (.aload_n 0, 1) := by decide +kernel
theorem dX9_init_43 : decode cX9_init 43 = .ok (.getfield 10, 3) := by decide +kernel
theorem dX9_init_46 : decode cX9_init 46 = .ok (.aload_n 0, 1) := by decide +kernel
theorem dX9_init_47 : decode cX9_init 47 = .ok (.getfield 23, 3) := by decide +kernel
theorem dX9_init_50 : decode cX9_init 50 = .ok (.invokespecial 28, 3) := by decide +kernel
theorem dX9_init_53 : decode cX9_init 53 = .ok (.putfield 31, 3) := by decide +kernel
theorem dX9_init_56 : decode cX9_init 56 = .ok (.aload_n 0, 1) := by decide +kernel
theorem dX9_init_57 : decode cX9_init 57 = .ok (.iconst 3, 1) := by decide +kernel
theorem dX9_init_58 : decode cX9_init 58 = .ok (.anewarray 16, 3) := by decide +kernel
theorem dX9_init_61 : decode cX9_init 61 = .ok (.putfield 35, 3) := by decide +kernel
theorem dX9_init_64 : decode cX9_init 64 = .ok (.iconst 0, 1) := by decide +kernel
theorem dX9_init_65 : decode cX9_init 65 = .ok (.istore_n 1, 1) := by decide +kernel
theorem dX9_init_66 : decode cX9_init 66 = .ok (.iload_n 1, 1) := by decide +kernel
theorem dX9_init_67 : decode cX9_init 67 = .ok (.iconst 3, 1) := by decide +kernel
theorem dX9_init_68 : decode cX9_init 68 = .ok (.if_icmp .ge 22, 3) := by decide +kernel
theorem dX9_init_71 : decode cX9_init 71 = .ok (.aload_n 0, 1) := by decide +kernel
theorem dX9_init_72 : decode cX9_init 72 = .ok (.getfield 35, 3) := by decide +kernel
theorem dX9_init_75 : decode cX9_init 75 = .ok (.iload_n 1, 1) := by decide +kernel
theorem dX9_init_76 : decode cX9_init 76 = .ok (.new 16, 3) := by decide +kernel
theorem dX9_init_79 : decode cX9_init 79 = .ok (.dup, 1) := by decide +kernel
theorem dX9_init_80 : decode cX9_init 80 = .ok (.invokespecial 18, 3) := by decide +kernel
theorem dX9_init_83 : decode cX9_init 83 = .ok (.aastore, 1) := by decide +kernel
theorem dX9_init_84 : decode cX9_init 84 = .ok (.iinc 1 1, 3) := by decide +kernel
theorem dX9_init_87 : decode cX9_init 87 = .ok (.goto (-21), 3) := by decide +kernel
theorem dX9_init_90 : decode cX9_init 90 = .ok (.aload_n 0, 1) := by decide +kernel
theorem dX9_init_91 : decode cX9_init 91 = .ok (.iconst 3, 1) := by decide +kernel
theorem dX9_init_92 : decode cX9_init 92 = .ok (.newarray .boolean, 2) := by decide +kernel
theorem dX9_init_94 : decode cX9_init 94 = .ok (.putfield 39, 3) := by decide +kernel
theorem dX9_init_97 : decode cX9_init 97 = .ok (.aload_n 0, 1) := by decide +kernel
theorem dX9_init_98 : decode cX9_init 98 = .ok (.new 43, 3) := by decide +kernel
theorem dX9_init_101 : decode cX9_init 101 = .ok (.dup, 1) := by decide +kernel
theorem dX9_init_102 : decode cX9_init 102 = .ok (.invokespecial 45, 3) := by decide +kernel
theorem dX9_init_105 : decode cX9_init 105 = .ok (.putfield 46, 3) := by decide +kernel
theorem dX9_init_108 : decode cX9_init 108 = .ok (.aload_n 0, 1) := by decide +kernel
theorem dX9_init_109 : decode cX9_init 109 = .ok (.new 50, 3) := by decide +kernel
theorem dX9_init_112 : decode cX9_init 112 = .ok (.dup, 1) := by decide +kernel
theorem dX9_init_113 : decode cX9_init 113 = .ok (.invokespecial 52, 3) := by decide +kernel
theorem dX9_init_116 : decode cX9_init 116 = .ok (.putfield 53, 3) := by decide +kernel
theorem dX9_init_119 : decode cX9_init 119 = .ok (.aload_n 0, 1) := by decide +kernel
theorem dX9_init_120 : decode cX9_init 120 = .ok (.new 57, 3) := by decide +kernel
theorem dX9_init_123 : decode cX9_init 123 = .ok (.dup, 1) := by decide +kernel
theorem dX9_init_124 : decode cX9_init 124 = .ok (.aload_n 0, 1) := by decide +kernel
theorem dX9_init_125 : decode cX9_init 125 = .ok (.getfield 53, 3) := by decide +kernel
theorem dX9_init_128 : decode cX9_init 128 = .ok (.invokespecial 59, 3) := by decide +kernel
theorem dX9_init_131 : decode cX9_init 131 = .ok (.putfield 62, 3) := by decide +kernel
theorem dX9_init_134 : decode cX9_init 134 = .ok (.aload_n 0, 1) := by decide +kernel
theorem dX9_init_135 : decode cX9_init 135 = .ok (.new 66, 3) := by decide +kernel
theorem dX9_init_138 : decode cX9_init 138 = .ok (.dup, 1) := by decide +kernel
theorem dX9_init_139 : decode cX9_init 139 = .ok (.aload_n 0, 1) := by decide +kernel
theorem dX9_init_140 : decode cX9_init 140 = .ok (.getfield 53, 3) := by decide +kernel
theorem dX9_init_143 : decode cX9_init 143 = .ok (.invokespecial 68, 3) := by decide +kernel
theorem dX9_init_146 : decode cX9_init 146 = .ok (.putfield 69, 3) := by decide +kernel
theorem dX9_init_149 : decode cX9_init 149 = .ok (.aload_n 0, 1) := by decide +kernel
theorem dX9_init_150 : decode cX9_init 150 = .ok (.new 73, 3) := by decide +kernel
theorem dX9_init_153 : decode cX9_init 153 = .ok (.dup, 1) := by decide +kernel
theorem dX9_init_154 : decode cX9_init 154 = .ok (.aload_n 0, 1) := by decide +kernel
theorem dX9_init_155 : decode cX9_init 155 = .ok (.getfield 53, 3) := by decide +kernel
theorem dX9_init_158 : decode cX9_init 158 = .ok (.invokespecial 75, 3) := by decide +kernel
theorem dX9_init_161 : decode cX9_init 161 = .ok (.putfield 76, 3) := by decide +kernel
theorem dX9_init_164 : decode cX9_init 164 = .ok (.return_, 1) := by decide +kernel
theorem dX9_feed_0 : decode cX9_feed 0 = .ok (.aload_n 0, 1) := by decide +kernel
theorem dX9_feed_1 : decode cX9_feed 1 = .ok (.getfield 10, 3) := by decide +kernel
theorem dX9_feed_4 : decode cX9_feed 4 = .ok (.getfield 80, 3) := by decide +kernel
theorem dX9_feed_7 : decode cX9_feed 7 = .ok (.sipush 1580, 3) := by decide +kernel
theorem dX9_feed_10 : decode cX9_feed 10 = .ok (.if_icmp .le 5, 3) := by decide +kernel
theorem dX9_feed_13 : decode cX9_feed 13 = .ok (.iconst (-1), 1) := by decide +kernel
theorem dX9_feed_14 : decode cX9_feed 14 = .ok (.ireturn, 1) := by decide +kernel
theorem dX9_feed_15 : decode cX9_feed 15 = .ok (.aload_n 0, 1) := by decide +kernel
theorem dX9_feed_16 : decode cX9_feed 16 = .ok (.getfield 10, 3) := by decide +kernel
theorem dX9_feed_19 : decode cX9_feed 19 = .ok (.iload_n 1, 1) := by decide +kernel
theorem dX9_feed_20 : decode cX9_feed 20 = .ok (.invokevirtual 84, 3) := by decide +kernel
theorem dX9_feed_23 : decode cX9_feed 23 = .ok (.aload_n 0, 1) := by decide +kernel
theorem dX9_feed_24 : decode cX9_feed 24 = .ok (.getfield 10, 3) := by decide +kernel
theorem dX9_feed_27 : decode cX9_feed 27 = .ok (.iload_n 2, 1) := by decide +kernel
theorem dX9_feed_28 : decode cX9_feed 28 = .ok (.invokevirtual 84, 3) := by decide +kernel
theorem dX9_feed_31 : decode cX9_feed 31 = .ok (.aload_n 0, 1) := by decide +kernel
theorem dX9_feed_32 : decode cX9_feed 32 = .ok (.getfield 10, 3) := by decide +kernel
theorem dX9_feed_35 : decode cX9_feed 35 = .ok (.iload_n 3, 1) := by decide +kernel
theorem dX9_feed_36 : decode cX9_feed 36 = .ok (.invokevirtual 84, 3) := by decide +kernel
theorem dX9_feed_39 : decode cX9_feed 39 = .ok (.aload_n 0, 1) := by decide +kernel
theorem dX9_feed_40 : decode cX9_feed 40 = .ok (.getfield 10, 3) := by decide +kernel
theorem dX9_feed_43 : decode cX9_feed 43 = .ok (.iload 4, 2) := by decide +kernel
theorem dX9_feed_45 : decode cX9_feed 45 = .ok (.invokevirtual 84, 3) := by decide +kernel
theorem dX9_feed_48 : decode cX9_feed 48 = .ok (.aload_n 0, 1) := by decide +kernel
theorem dX9_feed_49 : decode cX9_feed 49 = .ok (.getfield 10, 3) := by decide +kernel
theorem dX9_feed_52 : decode cX9_feed 52 = .ok (.iload 5, 2) := by decide +kernel
theorem dX9_feed_54 : decode cX9_feed 54 = .ok (.invokevirtual 84, 3) := by decide +kernel
theorem dX9_feed_57 : decode cX9_feed 57 = .ok (.aload_n 0, 1) := by decide +kernel
theorem dX9_feed_58 : decode cX9_feed 58 = .ok (.getfield 10, 3) := by decide +kernel
theorem dX9_feed_61 : decode cX9_feed 61 = .ok (.getfield 80, 3) := by decide +kernel
theorem dX9_feed_64 : decode cX9_feed 64 = .ok (.ireturn, 1) := by decide +kernel
theorem dX9_end_0 : decode cX9_end 0 = .ok (.iload_n 1, 1) := by decide +kernel
theorem dX9_end_1 : decode cX9_end 1 = .ok (.ifCond .lt 14, 3) := by decide +kernel
theorem dX9_end_4 : decode cX9_end 4 = .ok (.iload_n 1, 1) := by decide +kernel
theorem dX9_end_5 : decode cX9_end 5 = .ok (.aload_n 0, 1) := by decide +kernel
theorem dX9_end_6 : decode cX9_end 6 = .ok (.getfield 10, 3) := by decide +kernel
theorem dX9_end_9 : decode cX9_end 9 = .ok (.getfield 80, 3) := by decide +kernel
theorem dX9_end_12 : decode cX9_end 12 = .ok (.if_icmp .le 5, 3) := by decide +kernel
theorem dX9_end_15 : decode cX9_end 15 = .ok (.iconst (-1), 1) := by decide +kernel
theorem dX9_end_16 : decode cX9_end 16 = .ok (.ireturn, 1) := by decide +kernel
theorem dX9_end_17 : decode cX9_end 17 = .ok (.aload_n 0, 1) := by decide +kernel
theorem dX9_end_18 : decode cX9_end 18 = .ok (.getfield 10, 3) := by decide +kernel
theorem dX9_end_21 : decode cX9_end 21 = .ok (.iload_n 1, 1) := by decide +kernel
theorem dX9_end_22 : decode cX9_end 22 = .ok (.putfield 80, 3) := by decide +kernel
theorem dX9_end_25 : decode cX9_end 25 = .ok (.iload_n 1, 1) := by decide +kernel
theorem dX9_end_26 : decode cX9_end 26 = .ok (.ireturn, 1) := by decide +kernel
theorem dX9_moor_0 : decode cX9_moor 0 = .ok (.aload_n 0, 1) := by decide +kernel
theorem dX9_moor_1 : decode cX9_moor 1 = .ok (.getfield 31, 3) := by decide +kernel
theorem dX9_moor_4 : decode cX9_moor 4 = .ok (.invokevirtual 88, 3) := by decide +kernel
theorem dX9_moor_7 : decode cX9_moor 7 = .ok (.iconst 0, 1) := by decide +kernel
theorem dX9_moor_8 : decode cX9_moor 8 = .ok (.istore_n 1, 1) := by decide +kernel
theorem dX9_moor_9 : decode cX9_moor 9 = .ok (.iload_n 1, 1) := by decide +kernel
theorem dX9_moor_10 : decode cX9_moor 10 = .ok (.sipush 1600, 3) := by decide +kernel
theorem dX9_moor_13 : decode cX9_moor 13 = .ok (.if_icmp .gt 26, 3) := by decide +kernel
theorem dX9_moor_16 : decode cX9_moor 16 = .ok (.aload_n 0, 1) := by decide +kernel
theorem dX9_moor_17 : decode cX9_moor 17 = .ok (.getfield 31, 3) := by decide +kernel
theorem dX9_moor_20 : decode cX9_moor 20 = .ok (.invokevirtual 91, 3) := by decide +kernel
theorem dX9_moor_23 : decode cX9_moor 23 = .ok (.ifCond .eq 16, 3) := by decide +kernel
theorem dX9_moor_26 : decode cX9_moor 26 = .ok (.aload_n 0, 1) := by decide +kernel
theorem dX9_moor_27 : decode cX9_moor 27 = .ok (.getfield 31, 3) := by decide +kernel
theorem dX9_moor_30 : decode cX9_moor 30 = .ok (.invokevirtual 95, 3) := by decide +kernel
theorem dX9_moor_33 : decode cX9_moor 33 = .ok (.iinc 1 1, 3) := by decide +kernel
theorem dX9_moor_36 : decode cX9_moor 36 = .ok (.goto (-27), 3) := by decide +kernel
theorem dX9_moor_39 : decode cX9_moor 39 = .ok (.aload_n 0, 1) := by decide +kernel
theorem dX9_moor_40 : decode cX9_moor 40 = .ok (.getfield 31, 3) := by decide +kernel
theorem dX9_moor_43 : decode cX9_moor 43 = .ok (.getfield 98, 3) := by decide +kernel
theorem dX9_moor_46 : decode cX9_moor 46 = .ok (.ifCond .eq 6, 3) := by decide +kernel
theorem dX9_moor_49 : decode cX9_moor 49 = .ok (.bipush (-4), 2) := by decide +kernel
theorem dX9_moor_51 : decode cX9_moor 51 = .ok (.ireturn, 1) := by decide +kernel
theorem dX9_moor_52 : decode cX9_moor 52 = .ok (.aload_n 0, 1) := by decide +kernel
theorem dX9_moor_53 : decode cX9_moor 53 = .ok (.getfield 10, 3) := by decide +kernel
theorem dX9_moor_56 : decode cX9_moor 56 = .ok (.iconst 0, 1) := by decide +kernel
theorem dX9_moor_57 : decode cX9_moor 57 = .ok (.putfield 80, 3) := by decide +kernel
theorem dX9_moor_60 : decode cX9_moor 60 = .ok (.aload_n 0, 1) := by decide +kernel
theorem dX9_moor_61 : decode cX9_moor 61 = .ok (.getfield 19, 3) := by decide +kernel
theorem dX9_moor_64 : decode cX9_moor 64 = .ok (.aload_n 0, 1) := by decide +kernel
theorem dX9_moor_65 : decode cX9_moor 65 = .ok (.getfield 23, 3) := by decide +kernel
theorem dX9_moor_68 : decode cX9_moor 68 = .ok (.invokevirtual 101, 3) := by decide +kernel
theorem dX9_moor_71 : decode cX9_moor 71 = .ok (.aload_n 0, 1) := by decide +kernel
theorem dX9_moor_72 : decode cX9_moor 72 = .ok (.getfield 19, 3) := by decide +kernel
theorem dX9_moor_75 : decode cX9_moor 75 = .ok (.getfield 105, 3) := by decide +kernel
theorem dX9_moor_78 : decode cX9_moor 78 = .ok (.ireturn, 1) := by decide +kernel
theorem dX9_fault_0 : decode cX9_fault 0 = .ok (.iload_n 1, 1) := by decide +kernel
theorem dX9_fault_1 : decode cX9_fault 1 = .ok (.ifCond .ne 11, 3) := by decide +kernel
theorem dX9_fault_4 : decode cX9_fault 4 = .ok (.aload_n 0, 1) := by decide +kernel
theorem dX9_fault_5 : decode cX9_fault 5 = .ok (.getfield 31, 3) := by decide +kernel
theorem dX9_fault_8 : decode cX9_fault 8 = .ok (.getfield 98, 3) := by decide +kernel
theorem dX9_fault_11 : decode cX9_fault 11 = .ok (.ireturn, 1) := by decide +kernel
theorem dX9_fault_12 : decode cX9_fault 12 = .ok (.iload_n 1, 1) := by decide +kernel
theorem dX9_fault_13 : decode cX9_fault 13 = .ok (.iconst 1, 1) := by decide +kernel
theorem dX9_fault_14 : decode cX9_fault 14 = .ok (.if_icmp .ne 13, 3) := by decide +kernel
theorem dX9_fault_17 : decode cX9_fault 17 = .ok (.aload_n 0, 1) := by decide +kernel
theorem dX9_fault_18 : decode cX9_fault 18 = .ok (.getfield 31, 3) := by decide +kernel
theorem dX9_fault_21 : decode cX9_fault 21 = .ok (.getfield 108, 3) := by decide +kernel
theorem dX9_fault_24 : decode cX9_fault 24 = .ok (.goto 4, 3) := by decide +kernel
theorem dX9_fault_27 : decode cX9_fault 27 = .ok (.iconst (-1), 1) := by decide +kernel
theorem dX9_fault_28 : decode cX9_fault 28 = .ok (.ireturn, 1) := by decide +kernel
theorem dX9_drive_0 : decode cX9_drive 0 = .ok (.aload_n 0, 1) := by decide +kernel
theorem dX9_drive_1 : decode cX9_drive 1 = .ok (.getfield 19, 3) := by decide +kernel
theorem dX9_drive_4 : decode cX9_drive 4 = .ok (.iload_n 1, 1) := by decide +kernel
theorem dX9_drive_5 : decode cX9_drive 5 = .ok (.invokevirtual 111, 3) := by decide +kernel
theorem dX9_drive_8 : decode cX9_drive 8 = .ok (.ifCond .ne 6, 3) := by decide +kernel
theorem dX9_drive_11 : decode cX9_drive 11 = .ok (.bipush (-2), 2) := by decide +kernel
theorem dX9_drive_13 : decode cX9_drive 13 = .ok (.ireturn, 1) := by decide +kernel
theorem dX9_drive_14 : decode cX9_drive 14 = .ok (.aload_n 0, 1) := by decide +kernel
theorem dX9_drive_15 : decode cX9_drive 15 = .ok (.getfield 19, 3) := by decide +kernel
theorem dX9_drive_18 : decode cX9_drive 18 = .ok (.getfield 115, 3) := by decide +kernel
theorem dX9_drive_21 : decode cX9_drive 21 = .ok (.iload_n 1, 1) := by decide +kernel
theorem dX9_drive_22 : decode cX9_drive 22 = .ok (.aaload, 1) := by decide +kernel
theorem dX9_drive_23 : decode cX9_drive 23 = .ok (.astore_n 3, 1) := by decide +kernel
theorem dX9_drive_24 : decode cX9_drive 24 = .ok (.iload_n 2, 1) := by decide +kernel
theorem dX9_drive_25 : decode cX9_drive 25 = .ok (.tableswitch 87 0 7 #[47, 52, 57, 62, 67, 72, 77, 82], 47) := by decide +kernel
theorem dX9_drive_72 : decode cX9_drive 72 = .ok (.aload_n 3, 1) := by decide +kernel
theorem dX9_drive_73 : decode cX9_drive 73 = .ok (.getfield 119, 3) := by decide +kernel
theorem dX9_drive_76 : decode cX9_drive 76 = .ok (.ireturn, 1) := by decide +kernel
theorem dX9_drive_77 : decode cX9_drive 77 = .ok (.aload_n 3, 1) := by decide +kernel
theorem dX9_drive_78 : decode cX9_drive 78 = .ok (.getfield 124, 3) := by decide +kernel
theorem dX9_drive_81 : decode cX9_drive 81 = .ok (.ireturn, 1) := by decide +kernel
theorem dX9_drive_82 : decode cX9_drive 82 = .ok (.aload_n 3, 1) := by decide +kernel
theorem dX9_drive_83 : decode cX9_drive 83 = .ok (.getfield 127, 3) := by decide +kernel
theorem dX9_drive_86 : decode cX9_drive 86 = .ok (.ireturn, 1) := by decide +kernel
theorem dX9_drive_87 : decode cX9_drive 87 = .ok (.aload_n 3, 1) := by decide +kernel
theorem dX9_drive_88 : decode cX9_drive 88 = .ok (.getfield 130, 3) := by decide +kernel
theorem dX9_drive_91 : decode cX9_drive 91 = .ok (.ireturn, 1) := by decide +kernel
theorem dX9_drive_92 : decode cX9_drive 92 = .ok (.aload_n 3, 1) := by decide +kernel
theorem dX9_drive_93 : decode cX9_drive 93 = .ok (.getfield 133, 3) := by decide +kernel
theorem dX9_drive_96 : decode cX9_drive 96 = .ok (.ireturn, 1) := by decide +kernel
theorem dX9_drive_97 : decode cX9_drive 97 = .ok (.aload_n 3, 1) := by decide +kernel
theorem dX9_drive_98 : decode cX9_drive 98 = .ok (.getfield 136, 3) := by decide +kernel
theorem dX9_drive_101 : decode cX9_drive 101 = .ok (.ireturn, 1) := by decide +kernel
theorem dX9_drive_102 : decode cX9_drive 102 = .ok (.aload_n 3, 1) := by decide +kernel
theorem dX9_drive_103 : decode cX9_drive 103 = .ok (.getfield 139, 3) := by decide +kernel
theorem dX9_drive_106 : decode cX9_drive 106 = .ok (.ireturn, 1) := by decide +kernel
theorem dX9_drive_107 : decode cX9_drive 107 = .ok (.aload_n 3, 1) := by decide +kernel
theorem dX9_drive_108 : decode cX9_drive 108 = .ok (.getfield 142, 3) := by decide +kernel
theorem dX9_drive_111 : decode cX9_drive 111 = .ok (.ireturn, 1) := by decide +kernel
theorem dX9_drive_112 : decode cX9_drive 112 = .ok (.bipush (-2), 2) := by decide +kernel
theorem dX9_drive_114 : decode cX9_drive 114 = .ok (.ireturn, 1) := by decide +kernel
theorem dX9_goes_0 : decode cX9_goes 0 = .ok (.aload_n 0, 1) := by decide +kernel
theorem dX9_goes_1 : decode cX9_goes 1 = .ok (.getfield 19, 3) := by decide +kernel
theorem dX9_goes_4 : decode cX9_goes 4 = .ok (.iload_n 1, 1) := by decide +kernel
theorem dX9_goes_5 : decode cX9_goes 5 = .ok (.invokevirtual 111, 3) := by decide +kernel
theorem dX9_goes_8 : decode cX9_goes 8 = .ok (.ifCond .eq 14, 3) := by decide +kernel
theorem dX9_goes_11 : decode cX9_goes 11 = .ok (.aload_n 0, 1) := by decide +kernel
theorem dX9_goes_12 : decode cX9_goes 12 = .ok (.getfield 19, 3) := by decide +kernel
theorem dX9_goes_15 : decode cX9_goes 15 = .ok (.iload_n 1, 1) := by decide +kernel
theorem dX9_goes_16 : decode cX9_goes 16 = .ok (.invokevirtual 145, 3) := by decide +kernel
theorem dX9_goes_19 : decode cX9_goes 19 = .ok (.goto 5, 3) := by decide +kernel
theorem dX9_goes_22 : decode cX9_goes 22 = .ok (.bipush (-2), 2) := by decide +kernel
theorem dX9_goes_24 : decode cX9_goes 24 = .ok (.ireturn, 1) := by decide +kernel
theorem dX9_law_0 : decode cX9_law 0 = .ok (.aload_n 0, 1) := by decide +kernel
theorem dX9_law_1 : decode cX9_law 1 = .ok (.getfield 19, 3) := by decide +kernel
theorem dX9_law_4 : decode cX9_law 4 = .ok (.invokevirtual 149, 3) := by decide +kernel
theorem dX9_law_7 : decode cX9_law 7 = .ok (.ifCond .eq 11, 3) := by decide +kernel
theorem dX9_law_10 : decode cX9_law 10 = .ok (.iload_n 1, 1) := by decide +kernel
theorem dX9_law_11 : decode cX9_law 11 = .ok (.iload_n 2, 1) := by decide +kernel
theorem dX9_law_12 : decode cX9_law 12 = .ok (.invokestatic 152, 3) := by decide +kernel
theorem dX9_law_15 : decode cX9_law 15 = .ok (.ifCond .ne 6, 3) := by decide +kernel
theorem dX9_law_18 : decode cX9_law 18 = .ok (.bipush (-2), 2) := by decide +kernel
theorem dX9_law_20 : decode cX9_law 20 = .ok (.ireturn, 1) := by decide +kernel
theorem dX9_law_21 : decode cX9_law 21 = .ok (.aload_n 0, 1) := by decide +kernel
theorem dX9_law_22 : decode cX9_law 22 = .ok (.getfield 19, 3) := by decide +kernel
theorem dX9_law_25 : decode cX9_law 25 = .ok (.getfield 156, 3) := by decide +kernel
theorem dX9_law_28 : decode cX9_law 28 = .ok (.iload_n 1, 1) := by decide +kernel
theorem dX9_law_29 : decode cX9_law 29 = .ok (.iaload, 1) := by decide +kernel
theorem dX9_law_30 : decode cX9_law 30 = .ok (.istore_n 3, 1) := by decide +kernel
theorem dX9_law_31 : decode cX9_law 31 = .ok (.aload_n 0, 1) := by decide +kernel
theorem dX9_law_32 : decode cX9_law 32 = .ok (.getfield 19, 3) := by decide +kernel
theorem dX9_law_35 : decode cX9_law 35 = .ok (.getfield 156, 3) := by decide +kernel
theorem dX9_law_38 : decode cX9_law 38 = .ok (.iload_n 1, 1) := by decide +kernel
theorem dX9_law_39 : decode cX9_law 39 = .ok (.iload_n 2, 1) := by decide +kernel
theorem dX9_law_40 : decode cX9_law 40 = .ok (.iastore, 1) := by decide +kernel
theorem dX9_law_41 : decode cX9_law 41 = .ok (.iload_n 3, 1) := by decide +kernel
theorem dX9_law_42 : decode cX9_law 42 = .ok (.ireturn, 1) := by decide +kernel
theorem dX9_sets_0 : decode cX9_sets 0 = .ok (.aload_n 0, 1) := by decide +kernel
theorem dX9_sets_1 : decode cX9_sets 1 = .ok (.getfield 19, 3) := by decide +kernel
theorem dX9_sets_4 : decode cX9_sets 4 = .ok (.iload_n 1, 1) := by decide +kernel
theorem dX9_sets_5 : decode cX9_sets 5 = .ok (.invokevirtual 111, 3) := by decide +kernel
theorem dX9_sets_8 : decode cX9_sets 8 = .ok (.ifCond .eq 21, 3) := by decide +kernel
theorem dX9_sets_11 : decode cX9_sets 11 = .ok (.aload_n 0, 1) := by decide +kernel
theorem dX9_sets_12 : decode cX9_sets 12 = .ok (.getfield 19, 3) := by decide +kernel
theorem dX9_sets_15 : decode cX9_sets 15 = .ok (.iload_n 2, 1) := by decide +kernel
theorem dX9_sets_16 : decode cX9_sets 16 = .ok (.invokevirtual 160, 3) := by decide +kernel
theorem dX9_sets_19 : decode cX9_sets 19 = .ok (.ifCond .eq 10, 3) := by decide +kernel
theorem dX9_sets_22 : decode cX9_sets 22 = .ok (.iload_n 3, 1) := by decide +kernel
theorem dX9_sets_23 : decode cX9_sets 23 = .ok (.invokestatic 163, 3) := by decide +kernel
theorem dX9_sets_26 : decode cX9_sets 26 = .ok (.ifCond .ne 6, 3) := by decide +kernel
theorem dX9_sets_29 : decode cX9_sets 29 = .ok (.bipush (-2), 2) := by decide +kernel
theorem dX9_sets_31 : decode cX9_sets 31 = .ok (.ireturn, 1) := by decide +kernel
theorem dX9_sets_32 : decode cX9_sets 32 = .ok (.aload_n 0, 1) := by decide +kernel
theorem dX9_sets_33 : decode cX9_sets 33 = .ok (.getfield 19, 3) := by decide +kernel
theorem dX9_sets_36 : decode cX9_sets 36 = .ok (.getfield 115, 3) := by decide +kernel
theorem dX9_sets_39 : decode cX9_sets 39 = .ok (.iload_n 1, 1) := by decide +kernel
theorem dX9_sets_40 : decode cX9_sets 40 = .ok (.aaload, 1) := by decide +kernel
theorem dX9_sets_41 : decode cX9_sets 41 = .ok (.astore 4, 2) := by decide +kernel
theorem dX9_sets_43 : decode cX9_sets 43 = .ok (.aload 4, 2) := by decide +kernel
theorem dX9_sets_45 : decode cX9_sets 45 = .ok (.invokevirtual 166, 3) := by decide +kernel
theorem dX9_sets_48 : decode cX9_sets 48 = .ok (.istore 5, 2) := by decide +kernel
theorem dX9_sets_50 : decode cX9_sets 50 = .ok (.aload 4, 2) := by decide +kernel
theorem dX9_sets_52 : decode cX9_sets 52 = .ok (.iload_n 2, 1) := by decide +kernel
theorem dX9_sets_53 : decode cX9_sets 53 = .ok (.putfield 124, 3) := by decide +kernel
theorem dX9_sets_56 : decode cX9_sets 56 = .ok (.aload 4, 2) := by decide +kernel
theorem dX9_sets_58 : decode cX9_sets 58 = .ok (.iload_n 3, 1) := by decide +kernel
theorem dX9_sets_59 : decode cX9_sets 59 = .ok (.putfield 130, 3) := by decide +kernel
theorem dX9_sets_62 : decode cX9_sets 62 = .ok (.iload 5, 2) := by decide +kernel
theorem dX9_sets_64 : decode cX9_sets 64 = .ok (.ireturn, 1) := by decide +kernel
theorem dX9_counter_0 : decode cX9_counter 0 = .ok (.aload_n 0, 1) := by decide +kernel
theorem dX9_counter_1 : decode cX9_counter 1 = .ok (.getfield 19, 3) := by decide +kernel
theorem dX9_counter_4 : decode cX9_counter 4 = .ok (.iload_n 1, 1) := by decide +kernel
theorem dX9_counter_5 : decode cX9_counter 5 = .ok (.invokevirtual 160, 3) := by decide +kernel
theorem dX9_counter_8 : decode cX9_counter 8 = .ok (.ifCond .eq 21, 3) := by decide +kernel
theorem dX9_counter_11 : decode cX9_counter 11 = .ok (.aload_n 0, 1) := by decide +kernel
theorem dX9_counter_12 : decode cX9_counter 12 = .ok (.getfield 19, 3) := by decide +kernel
theorem dX9_counter_15 : decode cX9_counter 15 = .ok (.iload_n 2, 1) := by decide +kernel
theorem dX9_counter_16 : decode cX9_counter 16 = .ok (.invokevirtual 170, 3) := by decide +kernel
theorem dX9_counter_19 : decode cX9_counter 19 = .ok (.ifCond .eq 10, 3) := by decide +kernel
theorem dX9_counter_22 : decode cX9_counter 22 = .ok (.iload_n 3, 1) := by decide +kernel
theorem dX9_counter_23 : decode cX9_counter 23 = .ok (.invokestatic 163, 3) := by decide +kernel
theorem dX9_counter_26 : decode cX9_counter 26 = .ok (.ifCond .ne 6, 3) := by decide +kernel
theorem dX9_counter_29 : decode cX9_counter 29 = .ok (.bipush (-2), 2) := by decide +kernel
theorem dX9_counter_31 : decode cX9_counter 31 = .ok (.ireturn, 1) := by decide +kernel
theorem dX9_counter_32 : decode cX9_counter 32 = .ok (.aload_n 0, 1) := by decide +kernel
theorem dX9_counter_33 : decode cX9_counter 33 = .ok (.getfield 53, 3) := by decide +kernel
theorem dX9_counter_36 : decode cX9_counter 36 = .ok (.aload_n 0, 1) := by decide +kernel
theorem dX9_counter_37 : decode cX9_counter 37 = .ok (.getfield 19, 3) := by decide +kernel
theorem dX9_counter_40 : decode cX9_counter 40 = .ok (.bipush 24, 2) := by decide +kernel
theorem dX9_counter_42 : decode cX9_counter 42 = .ok (.iload_n 2, 1) := by decide +kernel
theorem dX9_counter_43 : decode cX9_counter 43 = .ok (.imul, 1) := by decide +kernel
theorem dX9_counter_44 : decode cX9_counter 44 = .ok (.iload_n 3, 1) := by decide +kernel
theorem dX9_counter_45 : decode cX9_counter 45 = .ok (.iadd, 1) := by decide +kernel
theorem dX9_counter_46 : decode cX9_counter 46 = .ok (.invokevirtual 173, 3) := by decide +kernel
theorem dX9_counter_49 : decode cX9_counter 49 = .ok (.aload_n 0, 1) := by decide +kernel
theorem dX9_counter_50 : decode cX9_counter 50 = .ok (.getfield 53, 3) := by decide +kernel
theorem dX9_counter_53 : decode cX9_counter 53 = .ok (.getfield 177, 3) := by decide +kernel
theorem dX9_counter_56 : decode cX9_counter 56 = .ok (.aload_n 0, 1) := by decide +kernel
theorem dX9_counter_57 : decode cX9_counter 57 = .ok (.getfield 19, 3) := by decide +kernel
theorem dX9_counter_60 : decode cX9_counter 60 = .ok (.iload_n 1, 1) := by decide +kernel
theorem dX9_counter_61 : decode cX9_counter 61 = .ok (.invokevirtual 180, 3) := by decide +kernel
theorem dX9_counter_64 : decode cX9_counter 64 = .ok (.iaload, 1) := by decide +kernel
theorem dX9_counter_65 : decode cX9_counter 65 = .ok (.ireturn, 1) := by decide +kernel
theorem dX9_through_0 : decode cX9_through 0 = .ok (.aload_n 0, 1) := by decide +kernel
theorem dX9_through_1 : decode cX9_through 1 = .ok (.getfield 19, 3) := by decide +kernel
theorem dX9_through_4 : decode cX9_through 4 = .ok (.iload_n 1, 1) := by decide +kernel
theorem dX9_through_5 : decode cX9_through 5 = .ok (.invokevirtual 160, 3) := by decide +kernel
theorem dX9_through_8 : decode cX9_through 8 = .ok (.ifCond .eq 23, 3) := by decide +kernel
theorem dX9_through_11 : decode cX9_through 11 = .ok (.aload_n 0, 1) := by decide +kernel
theorem dX9_through_12 : decode cX9_through 12 = .ok (.getfield 19, 3) := by decide +kernel
theorem dX9_through_15 : decode cX9_through 15 = .ok (.iload_n 2, 1) := by decide +kernel
theorem dX9_through_16 : decode cX9_through 16 = .ok (.invokevirtual 170, 3) := by decide +kernel
theorem dX9_through_19 : decode cX9_through 19 = .ok (.ifCond .eq 12, 3) := by decide +kernel
theorem dX9_through_22 : decode cX9_through 22 = .ok (.iload_n 3, 1) := by decide +kernel
theorem dX9_through_23 : decode cX9_through 23 = .ok (.ifCond .lt 8, 3) := by decide +kernel
theorem dX9_through_26 : decode cX9_through 26 = .ok (.iload_n 3, 1) := by decide +kernel
theorem dX9_through_27 : decode cX9_through 27 = .ok (.iconst 1, 1) := by decide +kernel
theorem dX9_through_28 : decode cX9_through 28 = .ok (.if_icmp .le 6, 3) := by decide +kernel
theorem dX9_through_31 : decode cX9_through 31 = .ok (.bipush (-2), 2) := by decide +kernel
theorem dX9_through_33 : decode cX9_through 33 = .ok (.ireturn, 1) := by decide +kernel
theorem dX9_through_34 : decode cX9_through 34 = .ok (.iload_n 3, 1) := by decide +kernel
theorem dX9_through_35 : decode cX9_through 35 = .ok (.ifCond .ne 15, 3) := by decide +kernel
theorem dX9_through_38 : decode cX9_through 38 = .ok (.aload_n 0, 1) := by decide +kernel
theorem dX9_through_39 : decode cX9_through 39 = .ok (.getfield 19, 3) := by decide +kernel
theorem dX9_through_42 : decode cX9_through 42 = .ok (.iload_n 1, 1) := by decide +kernel
theorem dX9_through_43 : decode cX9_through 43 = .ok (.iload_n 2, 1) := by decide +kernel
theorem dX9_through_44 : decode cX9_through 44 = .ok (.invokevirtual 183, 3) := by decide +kernel
theorem dX9_through_47 : decode cX9_through 47 = .ok (.goto 12, 3) := by decide +kernel
theorem dX9_through_50 : decode cX9_through 50 = .ok (.aload_n 0, 1) := by decide +kernel
theorem dX9_through_51 : decode cX9_through 51 = .ok (.getfield 19, 3) := by decide +kernel
theorem dX9_through_54 : decode cX9_through 54 = .ok (.iload_n 1, 1) := by decide +kernel
theorem dX9_through_55 : decode cX9_through 55 = .ok (.iload_n 2, 1) := by decide +kernel
theorem dX9_through_56 : decode cX9_through 56 = .ok (.invokevirtual 187, 3) := by decide +kernel
theorem dX9_through_59 : decode cX9_through 59 = .ok (.ireturn, 1) := by decide +kernel
theorem dX9_dues_0 : decode cX9_dues 0 = .ok (.aload_n 0, 1) := by decide +kernel
theorem dX9_dues_1 : decode cX9_dues 1 = .ok (.getfield 19, 3) := by decide +kernel
theorem dX9_dues_4 : decode cX9_dues 4 = .ok (.invokevirtual 149, 3) := by decide +kernel
theorem dX9_dues_7 : decode cX9_dues 7 = .ok (.ifCond .eq 17, 3) := by decide +kernel
theorem dX9_dues_10 : decode cX9_dues 10 = .ok (.aload_n 0, 1) := by decide +kernel
theorem dX9_dues_11 : decode cX9_dues 11 = .ok (.getfield 53, 3) := by decide +kernel
theorem dX9_dues_14 : decode cX9_dues 14 = .ok (.aload_n 0, 1) := by decide +kernel
theorem dX9_dues_15 : decode cX9_dues 15 = .ok (.getfield 19, 3) := by decide +kernel
theorem dX9_dues_18 : decode cX9_dues 18 = .ok (.invokevirtual 190, 3) := by decide +kernel
theorem dX9_dues_21 : decode cX9_dues 21 = .ok (.goto 5, 3) := by decide +kernel
theorem dX9_dues_24 : decode cX9_dues 24 = .ok (.bipush (-2), 2) := by decide +kernel
theorem dX9_dues_26 : decode cX9_dues 26 = .ok (.ireturn, 1) := by decide +kernel
theorem dX9_due_0 : decode cX9_due 0 = .ok (.aload_n 0, 1) := by decide +kernel
theorem dX9_due_1 : decode cX9_due 1 = .ok (.getfield 19, 3) := by decide +kernel
theorem dX9_due_4 : decode cX9_due 4 = .ok (.invokevirtual 149, 3) := by decide +kernel
theorem dX9_due_7 : decode cX9_due 7 = .ok (.ifCond .eq 12, 3) := by decide +kernel
theorem dX9_due_10 : decode cX9_due 10 = .ok (.iload_n 2, 1) := by decide +kernel
theorem dX9_due_11 : decode cX9_due 11 = .ok (.ifCond .lt 8, 3) := by decide +kernel
theorem dX9_due_14 : decode cX9_due 14 = .ok (.iload_n 2, 1) := by decide +kernel
theorem dX9_due_15 : decode cX9_due 15 = .ok (.iconst 5, 1) := by decide +kernel
theorem dX9_due_16 : decode cX9_due 16 = .ok (.if_icmp .le 6, 3) := by decide +kernel
theorem dX9_due_19 : decode cX9_due 19 = .ok (.bipush (-2), 2) := by decide +kernel
theorem dX9_due_21 : decode cX9_due 21 = .ok (.ireturn, 1) := by decide +kernel
theorem dX9_due_22 : decode cX9_due 22 = .ok (.iload_n 1, 1) := by decide +kernel
theorem dX9_due_23 : decode cX9_due 23 = .ok (.ifCond .lt 18, 3) := by decide +kernel
theorem dX9_due_26 : decode cX9_due 26 = .ok (.aload_n 0, 1) := by decide +kernel
theorem dX9_due_27 : decode cX9_due 27 = .ok (.getfield 53, 3) := by decide +kernel
theorem dX9_due_30 : decode cX9_due 30 = .ok (.aload_n 0, 1) := by decide +kernel
theorem dX9_due_31 : decode cX9_due 31 = .ok (.getfield 19, 3) := by decide +kernel
theorem dX9_due_34 : decode cX9_due 34 = .ok (.iload_n 1, 1) := by decide +kernel
theorem dX9_due_35 : decode cX9_due 35 = .ok (.invokevirtual 194, 3) := by decide +kernel
theorem dX9_due_38 : decode cX9_due 38 = .ok (.ifCond .ne 5, 3) := by decide +kernel
theorem dX9_due_41 : decode cX9_due 41 = .ok (.iconst (-1), 1) := by decide +kernel
theorem dX9_due_42 : decode cX9_due 42 = .ok (.ireturn, 1) := by decide +kernel
theorem dX9_due_43 : decode cX9_due 43 = .ok (.aload_n 0, 1) := by decide +kernel
theorem dX9_due_44 : decode cX9_due 44 = .ok (.getfield 53, 3) := by decide +kernel
theorem dX9_due_47 : decode cX9_due 47 = .ok (.getfield 198, 3) := by decide +kernel
theorem dX9_due_50 : decode cX9_due 50 = .ok (.istore_n 3, 1) := by decide +kernel
theorem dX9_due_51 : decode cX9_due 51 = .ok (.iload_n 2, 1) := by decide +kernel
theorem dX9_due_52 : decode cX9_due 52 = .ok (.tableswitch 88 0 4 #[36, 48, 60, 73, 86], 36) := by decide +kernel
theorem dX9_due_88 : decode cX9_due 88 = .ok (.aload_n 0, 1) := by decide +kernel
theorem dX9_due_89 : decode cX9_due 89 = .ok (.getfield 19, 3) := by decide +kernel
theorem dX9_due_92 : decode cX9_due 92 = .ok (.iload_n 3, 1) := by decide +kernel
theorem dX9_due_93 : decode cX9_due 93 = .ok (.invokevirtual 145, 3) := by decide +kernel
theorem dX9_due_96 : decode cX9_due 96 = .ok (.bipush 24, 2) := by decide +kernel
theorem dX9_due_98 : decode cX9_due 98 = .ok (.idiv, 1) := by decide +kernel
theorem dX9_due_99 : decode cX9_due 99 = .ok (.ireturn, 1) := by decide +kernel
theorem dX9_due_100 : decode cX9_due 100 = .ok (.aload_n 0, 1) := by decide +kernel
theorem dX9_due_101 : decode cX9_due 101 = .ok (.getfield 19, 3) := by decide +kernel
theorem dX9_due_104 : decode cX9_due 104 = .ok (.iload_n 3, 1) := by decide +kernel
theorem dX9_due_105 : decode cX9_due 105 = .ok (.invokevirtual 145, 3) := by decide +kernel
theorem dX9_due_108 : decode cX9_due 108 = .ok (.bipush 24, 2) := by decide +kernel
theorem dX9_due_110 : decode cX9_due 110 = .ok (.irem, 1) := by decide +kernel
theorem dX9_due_111 : decode cX9_due 111 = .ok (.ireturn, 1) := by decide +kernel
theorem dX9_due_112 : decode cX9_due 112 = .ok (.aload_n 0, 1) := by decide +kernel
theorem dX9_due_113 : decode cX9_due 113 = .ok (.getfield 19, 3) := by decide +kernel
theorem dX9_due_116 : decode cX9_due 116 = .ok (.getfield 115, 3) := by decide +kernel
theorem dX9_due_119 : decode cX9_due 119 = .ok (.iload_n 3, 1) := by decide +kernel
theorem dX9_due_120 : decode cX9_due 120 = .ok (.aaload, 1) := by decide +kernel
theorem dX9_due_121 : decode cX9_due 121 = .ok (.getfield 124, 3) := by decide +kernel
theorem dX9_due_124 : decode cX9_due 124 = .ok (.ireturn, 1) := by decide +kernel
theorem dX9_due_125 : decode cX9_due 125 = .ok (.aload_n 0, 1) := by decide +kernel
theorem dX9_due_126 : decode cX9_due 126 = .ok (.getfield 19, 3) := by decide +kernel
theorem dX9_due_129 : decode cX9_due 129 = .ok (.getfield 115, 3) := by decide +kernel
theorem dX9_due_132 : decode cX9_due 132 = .ok (.iload_n 3, 1) := by decide +kernel
theorem dX9_due_133 : decode cX9_due 133 = .ok (.aaload, 1) := by decide +kernel
theorem dX9_due_134 : decode cX9_due 134 = .ok (.getfield 139, 3) := by decide +kernel
theorem dX9_due_137 : decode cX9_due 137 = .ok (.ireturn, 1) := by decide +kernel
theorem dX9_due_138 : decode cX9_due 138 = .ok (.iload_n 3, 1) := by decide +kernel
theorem dX9_due_139 : decode cX9_due 139 = .ok (.ireturn, 1) := by decide +kernel
theorem dX9_due_140 : decode cX9_due 140 = .ok (.aload_n 0, 1) := by decide +kernel
theorem dX9_due_141 : decode cX9_due 141 = .ok (.getfield 53, 3) := by decide +kernel
theorem dX9_due_144 : decode cX9_due 144 = .ok (.getfield 201, 3) := by decide +kernel
theorem dX9_due_147 : decode cX9_due 147 = .ok (.ireturn, 1) := by decide +kernel
theorem dX9_paid_0 : decode cX9_paid 0 = .ok (.aload_n 0, 1) := by decide +kernel
theorem dX9_paid_1 : decode cX9_paid 1 = .ok (.getfield 19, 3) := by decide +kernel
theorem dX9_paid_4 : decode cX9_paid 4 = .ok (.iload_n 1, 1) := by decide +kernel
theorem dX9_paid_5 : decode cX9_paid 5 = .ok (.invokevirtual 204, 3) := by decide +kernel
theorem dX9_paid_8 : decode cX9_paid 8 = .ok (.ifCond .ne 6, 3) := by decide +kernel
theorem dX9_paid_11 : decode cX9_paid 11 = .ok (.bipush (-2), 2) := by decide +kernel
theorem dX9_paid_13 : decode cX9_paid 13 = .ok (.ireturn, 1) := by decide +kernel
theorem dX9_paid_14 : decode cX9_paid 14 = .ok (.aload_n 0, 1) := by decide +kernel
theorem dX9_paid_15 : decode cX9_paid 15 = .ok (.getfield 53, 3) := by decide +kernel
theorem dX9_paid_18 : decode cX9_paid 18 = .ok (.aload_n 0, 1) := by decide +kernel
theorem dX9_paid_19 : decode cX9_paid 19 = .ok (.getfield 19, 3) := by decide +kernel
theorem dX9_paid_22 : decode cX9_paid 22 = .ok (.iload_n 1, 1) := by decide +kernel
theorem dX9_paid_23 : decode cX9_paid 23 = .ok (.invokevirtual 207, 3) := by decide +kernel
theorem dX9_paid_26 : decode cX9_paid 26 = .ok (.ireturn, 1) := by decide +kernel
theorem dX9_pays_0 : decode cX9_pays 0 = .ok (.aload_n 0, 1) := by decide +kernel
theorem dX9_pays_1 : decode cX9_pays 1 = .ok (.getfield 19, 3) := by decide +kernel
theorem dX9_pays_4 : decode cX9_pays 4 = .ok (.iload_n 1, 1) := by decide +kernel
theorem dX9_pays_5 : decode cX9_pays 5 = .ok (.invokevirtual 204, 3) := by decide +kernel
theorem dX9_pays_8 : decode cX9_pays 8 = .ok (.ifCond .eq 14, 3) := by decide +kernel
theorem dX9_pays_11 : decode cX9_pays 11 = .ok (.aload_n 0, 1) := by decide +kernel
theorem dX9_pays_12 : decode cX9_pays 12 = .ok (.getfield 19, 3) := by decide +kernel
theorem dX9_pays_15 : decode cX9_pays 15 = .ok (.iload_n 2, 1) := by decide +kernel
theorem dX9_pays_16 : decode cX9_pays 16 = .ok (.invokevirtual 170, 3) := by decide +kernel
theorem dX9_pays_19 : decode cX9_pays 19 = .ok (.ifCond .ne 6, 3) := by decide +kernel
theorem dX9_pays_22 : decode cX9_pays 22 = .ok (.bipush (-2), 2) := by decide +kernel
theorem dX9_pays_24 : decode cX9_pays 24 = .ok (.ireturn, 1) := by decide +kernel
theorem dX9_pays_25 : decode cX9_pays 25 = .ok (.aload_n 0, 1) := by decide +kernel
theorem dX9_pays_26 : decode cX9_pays 26 = .ok (.getfield 53, 3) := by decide +kernel
theorem dX9_pays_29 : decode cX9_pays 29 = .ok (.aload_n 0, 1) := by decide +kernel
theorem dX9_pays_30 : decode cX9_pays 30 = .ok (.getfield 19, 3) := by decide +kernel
theorem dX9_pays_33 : decode cX9_pays 33 = .ok (.iload_n 1, 1) := by decide +kernel
theorem dX9_pays_34 : decode cX9_pays 34 = .ok (.iload_n 2, 1) := by decide +kernel
theorem dX9_pays_35 : decode cX9_pays 35 = .ok (.invokevirtual 211, 3) := by decide +kernel
theorem dX9_pays_38 : decode cX9_pays 38 = .ok (.ireturn, 1) := by decide +kernel
theorem dX9_worst_0 : decode cX9_worst 0 = .ok (.aload_n 0, 1) := by decide +kernel
theorem dX9_worst_1 : decode cX9_worst 1 = .ok (.getfield 19, 3) := by decide +kernel
theorem dX9_worst_4 : decode cX9_worst 4 = .ok (.invokevirtual 149, 3) := by decide +kernel
theorem dX9_worst_7 : decode cX9_worst 7 = .ok (.ifCond .ne 6, 3) := by decide +kernel
theorem dX9_worst_10 : decode cX9_worst 10 = .ok (.bipush (-2), 2) := by decide +kernel
theorem dX9_worst_12 : decode cX9_worst 12 = .ok (.ireturn, 1) := by decide +kernel
theorem dX9_worst_13 : decode cX9_worst 13 = .ok (.aload_n 0, 1) := by decide +kernel
theorem dX9_worst_14 : decode cX9_worst 14 = .ok (.getfield 53, 3) := by decide +kernel
theorem dX9_worst_17 : decode cX9_worst 17 = .ok (.aload_n 0, 1) := by decide +kernel
theorem dX9_worst_18 : decode cX9_worst 18 = .ok (.getfield 19, 3) := by decide +kernel
theorem dX9_worst_21 : decode cX9_worst 21 = .ok (.invokevirtual 190, 3) := by decide +kernel
theorem dX9_worst_24 : decode cX9_worst 24 = .ok (.pop, 1) := by decide +kernel
theorem dX9_worst_25 : decode cX9_worst 25 = .ok (.iconst (-1), 1) := by decide +kernel
theorem dX9_worst_26 : decode cX9_worst 26 = .ok (.istore_n 1, 1) := by decide +kernel
theorem dX9_worst_27 : decode cX9_worst 27 = .ok (.iconst 0, 1) := by decide +kernel
theorem dX9_worst_28 : decode cX9_worst 28 = .ok (.istore_n 2, 1) := by decide +kernel
theorem dX9_worst_29 : decode cX9_worst 29 = .ok (.iconst 0, 1) := by decide +kernel
theorem dX9_worst_30 : decode cX9_worst 30 = .ok (.istore_n 3, 1) := by decide +kernel
theorem dX9_worst_31 : decode cX9_worst 31 = .ok (.iload_n 3, 1) := by decide +kernel
theorem dX9_worst_32 : decode cX9_worst 32 = .ok (.aload_n 0, 1) := by decide +kernel
theorem dX9_worst_33 : decode cX9_worst 33 = .ok (.getfield 19, 3) := by decide +kernel
theorem dX9_worst_36 : decode cX9_worst 36 = .ok (.getfield 215, 3) := by decide +kernel
theorem dX9_worst_39 : decode cX9_worst 39 = .ok (.if_icmp .ge 34, 3) := by decide +kernel
theorem dX9_worst_42 : decode cX9_worst 42 = .ok (.aload_n 0, 1) := by decide +kernel
theorem dX9_worst_43 : decode cX9_worst 43 = .ok (.getfield 53, 3) := by decide +kernel
theorem dX9_worst_46 : decode cX9_worst 46 = .ok (.getfield 218, 3) := by decide +kernel
theorem dX9_worst_49 : decode cX9_worst 49 = .ok (.iload_n 3, 1) := by decide +kernel
theorem dX9_worst_50 : decode cX9_worst 50 = .ok (.iaload, 1) := by decide +kernel
theorem dX9_worst_51 : decode cX9_worst 51 = .ok (.iload_n 2, 1) := by decide +kernel
theorem dX9_worst_52 : decode cX9_worst 52 = .ok (.if_icmp .le 15, 3) := by decide +kernel
theorem dX9_worst_55 : decode cX9_worst 55 = .ok (.aload_n 0, 1) := by decide +kernel
theorem dX9_worst_56 : decode cX9_worst 56 = .ok (.getfield 53, 3) := by decide +kernel
theorem dX9_worst_59 : decode cX9_worst 59 = .ok (.getfield 218, 3) := by decide +kernel
theorem dX9_worst_62 : decode cX9_worst 62 = .ok (.iload_n 3, 1) := by decide +kernel
theorem dX9_worst_63 : decode cX9_worst 63 = .ok (.iaload, 1) := by decide +kernel
theorem dX9_worst_64 : decode cX9_worst 64 = .ok (.istore_n 2, 1) := by decide +kernel
theorem dX9_worst_65 : decode cX9_worst 65 = .ok (.iload_n 3, 1) := by decide +kernel
theorem dX9_worst_66 : decode cX9_worst 66 = .ok (.istore_n 1, 1) := by decide +kernel
theorem dX9_worst_67 : decode cX9_worst 67 = .ok (.iinc 3 1, 3) := by decide +kernel
theorem dX9_worst_70 : decode cX9_worst 70 = .ok (.goto (-39), 3) := by decide +kernel
theorem dX9_worst_73 : decode cX9_worst 73 = .ok (.iload_n 1, 1) := by decide +kernel
theorem dX9_worst_74 : decode cX9_worst 74 = .ok (.ireturn, 1) := by decide +kernel
theorem dX9_left_0 : decode cX9_left 0 = .ok (.aload_n 0, 1) := by decide +kernel
theorem dX9_left_1 : decode cX9_left 1 = .ok (.getfield 19, 3) := by decide +kernel
theorem dX9_left_4 : decode cX9_left 4 = .ok (.iload_n 1, 1) := by decide +kernel
theorem dX9_left_5 : decode cX9_left 5 = .ok (.invokevirtual 160, 3) := by decide +kernel
theorem dX9_left_8 : decode cX9_left 8 = .ok (.ifCond .eq 18, 3) := by decide +kernel
theorem dX9_left_11 : decode cX9_left 11 = .ok (.aload_n 0, 1) := by decide +kernel
theorem dX9_left_12 : decode cX9_left 12 = .ok (.getfield 53, 3) := by decide +kernel
theorem dX9_left_15 : decode cX9_left 15 = .ok (.aload_n 0, 1) := by decide +kernel
theorem dX9_left_16 : decode cX9_left 16 = .ok (.getfield 19, 3) := by decide +kernel
theorem dX9_left_19 : decode cX9_left 19 = .ok (.iload_n 1, 1) := by decide +kernel
theorem dX9_left_20 : decode cX9_left 20 = .ok (.invokevirtual 221, 3) := by decide +kernel
theorem dX9_left_23 : decode cX9_left 23 = .ok (.goto 5, 3) := by decide +kernel
theorem dX9_left_26 : decode cX9_left 26 = .ok (.bipush (-2), 2) := by decide +kernel
theorem dX9_left_28 : decode cX9_left 28 = .ok (.ireturn, 1) := by decide +kernel
theorem dX9_best_0 : decode cX9_best 0 = .ok (.aload_n 0, 1) := by decide +kernel
theorem dX9_best_1 : decode cX9_best 1 = .ok (.getfield 19, 3) := by decide +kernel
theorem dX9_best_4 : decode cX9_best 4 = .ok (.iload_n 1, 1) := by decide +kernel
theorem dX9_best_5 : decode cX9_best 5 = .ok (.invokevirtual 111, 3) := by decide +kernel
theorem dX9_best_8 : decode cX9_best 8 = .ok (.ifCond .eq 12, 3) := by decide +kernel
theorem dX9_best_11 : decode cX9_best 11 = .ok (.iload_n 2, 1) := by decide +kernel
theorem dX9_best_12 : decode cX9_best 12 = .ok (.ifCond .lt 8, 3) := by decide +kernel
theorem dX9_best_15 : decode cX9_best 15 = .ok (.iload_n 2, 1) := by decide +kernel
theorem dX9_best_16 : decode cX9_best 16 = .ok (.iconst 2, 1) := by decide +kernel
theorem dX9_best_17 : decode cX9_best 17 = .ok (.if_icmp .le 6, 3) := by decide +kernel
theorem dX9_best_20 : decode cX9_best 20 = .ok (.bipush (-2), 2) := by decide +kernel
theorem dX9_best_22 : decode cX9_best 22 = .ok (.ireturn, 1) := by decide +kernel
theorem dX9_best_23 : decode cX9_best 23 = .ok (.aload_n 0, 1) := by decide +kernel
theorem dX9_best_24 : decode cX9_best 24 = .ok (.getfield 62, 3) := by decide +kernel
theorem dX9_best_27 : decode cX9_best 27 = .ok (.aload_n 0, 1) := by decide +kernel
theorem dX9_best_28 : decode cX9_best 28 = .ok (.getfield 19, 3) := by decide +kernel
theorem dX9_best_31 : decode cX9_best 31 = .ok (.invokevirtual 224, 3) := by decide +kernel
theorem dX9_best_34 : decode cX9_best 34 = .ok (.aload_n 0, 1) := by decide +kernel
theorem dX9_best_35 : decode cX9_best 35 = .ok (.getfield 62, 3) := by decide +kernel
theorem dX9_best_38 : decode cX9_best 38 = .ok (.iload_n 1, 1) := by decide +kernel
theorem dX9_best_39 : decode cX9_best 39 = .ok (.invokevirtual 227, 3) := by decide +kernel
theorem dX9_best_42 : decode cX9_best 42 = .ok (.iload_n 2, 1) := by decide +kernel
theorem dX9_best_43 : decode cX9_best 43 = .ok (.ifCond .ne 11, 3) := by decide +kernel
theorem dX9_best_46 : decode cX9_best 46 = .ok (.aload_n 0, 1) := by decide +kernel
theorem dX9_best_47 : decode cX9_best 47 = .ok (.getfield 62, 3) := by decide +kernel
theorem dX9_best_50 : decode cX9_best 50 = .ok (.getfield 230, 3) := by decide +kernel
theorem dX9_best_53 : decode cX9_best 53 = .ok (.ireturn, 1) := by decide +kernel
theorem dX9_best_54 : decode cX9_best 54 = .ok (.iload_n 2, 1) := by decide +kernel
theorem dX9_best_55 : decode cX9_best 55 = .ok (.iconst 1, 1) := by decide +kernel
theorem dX9_best_56 : decode cX9_best 56 = .ok (.if_icmp .ne 13, 3) := by decide +kernel
theorem dX9_best_59 : decode cX9_best 59 = .ok (.aload_n 0, 1) := by decide +kernel
theorem dX9_best_60 : decode cX9_best 60 = .ok (.getfield 62, 3) := by decide +kernel
theorem dX9_best_63 : decode cX9_best 63 = .ok (.getfield 233, 3) := by decide +kernel
theorem dX9_best_66 : decode cX9_best 66 = .ok (.goto 10, 3) := by decide +kernel
theorem dX9_best_69 : decode cX9_best 69 = .ok (.aload_n 0, 1) := by decide +kernel
theorem dX9_best_70 : decode cX9_best 70 = .ok (.getfield 62, 3) := by decide +kernel
theorem dX9_best_73 : decode cX9_best 73 = .ok (.getfield 234, 3) := by decide +kernel
theorem dX9_best_76 : decode cX9_best 76 = .ok (.ireturn, 1) := by decide +kernel
theorem dX9_split_0 : decode cX9_split 0 = .ok (.aload_n 0, 1) := by decide +kernel
theorem dX9_split_1 : decode cX9_split 1 = .ok (.getfield 19, 3) := by decide +kernel
theorem dX9_split_4 : decode cX9_split 4 = .ok (.iload_n 1, 1) := by decide +kernel
theorem dX9_split_5 : decode cX9_split 5 = .ok (.invokevirtual 111, 3) := by decide +kernel
theorem dX9_split_8 : decode cX9_split 8 = .ok (.ifCond .eq 12, 3) := by decide +kernel
theorem dX9_split_11 : decode cX9_split 11 = .ok (.iload_n 2, 1) := by decide +kernel
theorem dX9_split_12 : decode cX9_split 12 = .ok (.ifCond .lt 8, 3) := by decide +kernel
theorem dX9_split_15 : decode cX9_split 15 = .ok (.iload_n 2, 1) := by decide +kernel
theorem dX9_split_16 : decode cX9_split 16 = .ok (.iconst 3, 1) := by decide +kernel
theorem dX9_split_17 : decode cX9_split 17 = .ok (.if_icmp .le 6, 3) := by decide +kernel
theorem dX9_split_20 : decode cX9_split 20 = .ok (.bipush (-2), 2) := by decide +kernel
theorem dX9_split_22 : decode cX9_split 22 = .ok (.ireturn, 1) := by decide +kernel
theorem dX9_split_23 : decode cX9_split 23 = .ok (.aload_n 0, 1) := by decide +kernel
theorem dX9_split_24 : decode cX9_split 24 = .ok (.getfield 19, 3) := by decide +kernel
theorem dX9_split_27 : decode cX9_split 27 = .ok (.getfield 115, 3) := by decide +kernel
theorem dX9_split_30 : decode cX9_split 30 = .ok (.iload_n 1, 1) := by decide +kernel
theorem dX9_split_31 : decode cX9_split 31 = .ok (.aaload, 1) := by decide +kernel
theorem dX9_split_32 : decode cX9_split 32 = .ok (.getfield 133, 3) := by decide +kernel
theorem dX9_split_35 : decode cX9_split 35 = .ok (.iconst 2, 1) := by decide +kernel
theorem dX9_split_36 : decode cX9_split 36 = .ok (.if_icmp .ge 5, 3) := by decide +kernel
theorem dX9_split_39 : decode cX9_split 39 = .ok (.iconst (-1), 1) := by decide +kernel
theorem dX9_split_40 : decode cX9_split 40 = .ok (.ireturn, 1) := by decide +kernel
theorem dX9_split_41 : decode cX9_split 41 = .ok (.aload_n 0, 1) := by decide +kernel
theorem dX9_split_42 : decode cX9_split 42 = .ok (.getfield 62, 3) := by decide +kernel
theorem dX9_split_45 : decode cX9_split 45 = .ok (.aload_n 0, 1) := by decide +kernel
theorem dX9_split_46 : decode cX9_split 46 = .ok (.getfield 19, 3) := by decide +kernel
theorem dX9_split_49 : decode cX9_split 49 = .ok (.invokevirtual 224, 3) := by decide +kernel
theorem dX9_split_52 : decode cX9_split 52 = .ok (.aload_n 0, 1) := by decide +kernel
theorem dX9_split_53 : decode cX9_split 53 = .ok (.getfield 62, 3) := by decide +kernel
theorem dX9_split_56 : decode cX9_split 56 = .ok (.iload_n 1, 1) := by decide +kernel
theorem dX9_split_57 : decode cX9_split 57 = .ok (.invokevirtual 235, 3) := by decide +kernel
theorem dX9_split_60 : decode cX9_split 60 = .ok (.iload_n 2, 1) := by decide +kernel
theorem dX9_split_61 : decode cX9_split 61 = .ok (.tableswitch 51 0 2 #[27, 35, 43], 27) := by decide +kernel
theorem dX9_split_88 : decode cX9_split 88 = .ok (.aload_n 0, 1) := by decide +kernel
theorem dX9_split_89 : decode cX9_split 89 = .ok (.getfield 62, 3) := by decide +kernel
theorem dX9_split_92 : decode cX9_split 92 = .ok (.getfield 238, 3) := by decide +kernel
theorem dX9_split_95 : decode cX9_split 95 = .ok (.ireturn, 1) := by decide +kernel
theorem dX9_split_96 : decode cX9_split 96 = .ok (.aload_n 0, 1) := by decide +kernel
theorem dX9_split_97 : decode cX9_split 97 = .ok (.getfield 62, 3) := by decide +kernel
theorem dX9_split_100 : decode cX9_split 100 = .ok (.getfield 241, 3) := by decide +kernel
theorem dX9_split_103 : decode cX9_split 103 = .ok (.ireturn, 1) := by decide +kernel
theorem dX9_split_104 : decode cX9_split 104 = .ok (.aload_n 0, 1) := by decide +kernel
theorem dX9_split_105 : decode cX9_split 105 = .ok (.getfield 62, 3) := by decide +kernel
theorem dX9_split_108 : decode cX9_split 108 = .ok (.getfield 244, 3) := by decide +kernel
theorem dX9_split_111 : decode cX9_split 111 = .ok (.ireturn, 1) := by decide +kernel
theorem dX9_split_112 : decode cX9_split 112 = .ok (.aload_n 0, 1) := by decide +kernel
theorem dX9_split_113 : decode cX9_split 113 = .ok (.getfield 62, 3) := by decide +kernel
theorem dX9_split_116 : decode cX9_split 116 = .ok (.getfield 247, 3) := by decide +kernel
theorem dX9_split_119 : decode cX9_split 119 = .ok (.ireturn, 1) := by decide +kernel
theorem dX9_rest_0 : decode cX9_rest 0 = .ok (.aload_n 0, 1) := by decide +kernel
theorem dX9_rest_1 : decode cX9_rest 1 = .ok (.getfield 19, 3) := by decide +kernel
theorem dX9_rest_4 : decode cX9_rest 4 = .ok (.invokevirtual 149, 3) := by decide +kernel
theorem dX9_rest_7 : decode cX9_rest 7 = .ok (.ifCond .ne 6, 3) := by decide +kernel
theorem dX9_rest_10 : decode cX9_rest 10 = .ok (.bipush (-2), 2) := by decide +kernel
theorem dX9_rest_12 : decode cX9_rest 12 = .ok (.ireturn, 1) := by decide +kernel
theorem dX9_rest_13 : decode cX9_rest 13 = .ok (.aload_n 0, 1) := by decide +kernel
theorem dX9_rest_14 : decode cX9_rest 14 = .ok (.getfield 62, 3) := by decide +kernel
theorem dX9_rest_17 : decode cX9_rest 17 = .ok (.aload_n 0, 1) := by decide +kernel
theorem dX9_rest_18 : decode cX9_rest 18 = .ok (.getfield 19, 3) := by decide +kernel
theorem dX9_rest_21 : decode cX9_rest 21 = .ok (.invokevirtual 224, 3) := by decide +kernel
theorem dX9_rest_24 : decode cX9_rest 24 = .ok (.aload_n 0, 1) := by decide +kernel
theorem dX9_rest_25 : decode cX9_rest 25 = .ok (.getfield 62, 3) := by decide +kernel
theorem dX9_rest_28 : decode cX9_rest 28 = .ok (.invokevirtual 250, 3) := by decide +kernel
theorem dX9_rest_31 : decode cX9_rest 31 = .ok (.ireturn, 1) := by decide +kernel
theorem dX9_rests_0 : decode cX9_rests 0 = .ok (.aload_n 0, 1) := by decide +kernel
theorem dX9_rests_1 : decode cX9_rests 1 = .ok (.getfield 19, 3) := by decide +kernel
theorem dX9_rests_4 : decode cX9_rests 4 = .ok (.invokevirtual 149, 3) := by decide +kernel
theorem dX9_rests_7 : decode cX9_rests 7 = .ok (.ifCond .eq 13, 3) := by decide +kernel
theorem dX9_rests_10 : decode cX9_rests 10 = .ok (.iload_n 1, 1) := by decide +kernel
theorem dX9_rests_11 : decode cX9_rests 11 = .ok (.ifCond .lt 9, 3) := by decide +kernel
theorem dX9_rests_14 : decode cX9_rests 14 = .ok (.iload_n 1, 1) := by decide +kernel
theorem dX9_rests_15 : decode cX9_rests 15 = .ok (.bipush 30, 2) := by decide +kernel
theorem dX9_rests_17 : decode cX9_rests 17 = .ok (.if_icmp .le 6, 3) := by decide +kernel
theorem dX9_rests_20 : decode cX9_rests 20 = .ok (.bipush (-2), 2) := by decide +kernel
theorem dX9_rests_22 : decode cX9_rests 22 = .ok (.ireturn, 1) := by decide +kernel
theorem dX9_rests_23 : decode cX9_rests 23 = .ok (.aload_n 0, 1) := by decide +kernel
theorem dX9_rests_24 : decode cX9_rests 24 = .ok (.getfield 62, 3) := by decide +kernel
theorem dX9_rests_27 : decode cX9_rests 27 = .ok (.aload_n 0, 1) := by decide +kernel
theorem dX9_rests_28 : decode cX9_rests 28 = .ok (.getfield 19, 3) := by decide +kernel
theorem dX9_rests_31 : decode cX9_rests 31 = .ok (.invokevirtual 224, 3) := by decide +kernel
theorem dX9_rests_34 : decode cX9_rests 34 = .ok (.aload_n 0, 1) := by decide +kernel
theorem dX9_rests_35 : decode cX9_rests 35 = .ok (.getfield 62, 3) := by decide +kernel
theorem dX9_rests_38 : decode cX9_rests 38 = .ok (.iload_n 1, 1) := by decide +kernel
theorem dX9_rests_39 : decode cX9_rests 39 = .ok (.invokevirtual 253, 3) := by decide +kernel
theorem dX9_rests_42 : decode cX9_rests 42 = .ok (.ireturn, 1) := by decide +kernel
theorem dX9_sent_0 : decode cX9_sent 0 = .ok (.aload_n 0, 1) := by decide +kernel
theorem dX9_sent_1 : decode cX9_sent 1 = .ok (.getfield 19, 3) := by decide +kernel
theorem dX9_sent_4 : decode cX9_sent 4 = .ok (.iload_n 1, 1) := by decide +kernel
theorem dX9_sent_5 : decode cX9_sent 5 = .ok (.invokevirtual 111, 3) := by decide +kernel
theorem dX9_sent_8 : decode cX9_sent 8 = .ok (.ifCond .eq 13, 3) := by decide +kernel
theorem dX9_sent_11 : decode cX9_sent 11 = .ok (.iload_n 2, 1) := by decide +kernel
theorem dX9_sent_12 : decode cX9_sent 12 = .ok (.ifCond .lt 9, 3) := by decide +kernel
theorem dX9_sent_15 : decode cX9_sent 15 = .ok (.iload_n 2, 1) := by decide +kernel
theorem dX9_sent_16 : decode cX9_sent 16 = .ok (.bipush 30, 2) := by decide +kernel
theorem dX9_sent_18 : decode cX9_sent 18 = .ok (.if_icmp .le 6, 3) := by decide +kernel
theorem dX9_sent_21 : decode cX9_sent 21 = .ok (.bipush (-2), 2) := by decide +kernel
theorem dX9_sent_23 : decode cX9_sent 23 = .ok (.ireturn, 1) := by decide +kernel
theorem dX9_sent_24 : decode cX9_sent 24 = .ok (.aload_n 0, 1) := by decide +kernel
theorem dX9_sent_25 : decode cX9_sent 25 = .ok (.getfield 62, 3) := by decide +kernel
theorem dX9_sent_28 : decode cX9_sent 28 = .ok (.aload_n 0, 1) := by decide +kernel
theorem dX9_sent_29 : decode cX9_sent 29 = .ok (.getfield 19, 3) := by decide +kernel
theorem dX9_sent_32 : decode cX9_sent 32 = .ok (.invokevirtual 224, 3) := by decide +kernel
theorem dX9_sent_35 : decode cX9_sent 35 = .ok (.aload_n 0, 1) := by decide +kernel
theorem dX9_sent_36 : decode cX9_sent 36 = .ok (.getfield 62, 3) := by decide +kernel
theorem dX9_sent_39 : decode cX9_sent 39 = .ok (.iload_n 2, 1) := by decide +kernel
theorem dX9_sent_40 : decode cX9_sent 40 = .ok (.invokevirtual 253, 3) := by decide +kernel
theorem dX9_sent_43 : decode cX9_sent 43 = .ok (.pop, 1) := by decide +kernel
theorem dX9_sent_44 : decode cX9_sent 44 = .ok (.aload_n 0, 1) := by decide +kernel
theorem dX9_sent_45 : decode cX9_sent 45 = .ok (.getfield 62, 3) := by decide +kernel
theorem dX9_sent_48 : decode cX9_sent 48 = .ok (.getfield 256, 3) := by decide +kernel
theorem dX9_sent_51 : decode cX9_sent 51 = .ok (.getfield 115, 3) := by decide +kernel
theorem dX9_sent_54 : decode cX9_sent 54 = .ok (.iload_n 1, 1) := by decide +kernel
theorem dX9_sent_55 : decode cX9_sent 55 = .ok (.aaload, 1) := by decide +kernel
theorem dX9_sent_56 : decode cX9_sent 56 = .ok (.invokevirtual 166, 3) := by decide +kernel
theorem dX9_sent_59 : decode cX9_sent 59 = .ok (.ireturn, 1) := by decide +kernel
theorem dX9_harm_0 : decode cX9_harm 0 = .ok (.aload_n 0, 1) := by decide +kernel
theorem dX9_harm_1 : decode cX9_harm 1 = .ok (.getfield 19, 3) := by decide +kernel
theorem dX9_harm_4 : decode cX9_harm 4 = .ok (.iload_n 1, 1) := by decide +kernel
theorem dX9_harm_5 : decode cX9_harm 5 = .ok (.invokevirtual 111, 3) := by decide +kernel
theorem dX9_harm_8 : decode cX9_harm 8 = .ok (.ifCond .ne 6, 3) := by decide +kernel
theorem dX9_harm_11 : decode cX9_harm 11 = .ok (.bipush (-2), 2) := by decide +kernel
theorem dX9_harm_13 : decode cX9_harm 13 = .ok (.ireturn, 1) := by decide +kernel
theorem dX9_harm_14 : decode cX9_harm 14 = .ok (.aload_n 0, 1) := by decide +kernel
theorem dX9_harm_15 : decode cX9_harm 15 = .ok (.getfield 19, 3) := by decide +kernel
theorem dX9_harm_18 : decode cX9_harm 18 = .ok (.getfield 115, 3) := by decide +kernel
theorem dX9_harm_21 : decode cX9_harm 21 = .ok (.iload_n 1, 1) := by decide +kernel
theorem dX9_harm_22 : decode cX9_harm 22 = .ok (.aaload, 1) := by decide +kernel
theorem dX9_harm_23 : decode cX9_harm 23 = .ok (.getfield 119, 3) := by decide +kernel
theorem dX9_harm_26 : decode cX9_harm 26 = .ok (.istore_n 2, 1) := by decide +kernel
theorem dX9_harm_27 : decode cX9_harm 27 = .ok (.aload_n 0, 1) := by decide +kernel
theorem dX9_harm_28 : decode cX9_harm 28 = .ok (.getfield 53, 3) := by decide +kernel
theorem dX9_harm_31 : decode cX9_harm 31 = .ok (.aload_n 0, 1) := by decide +kernel
theorem dX9_harm_32 : decode cX9_harm 32 = .ok (.getfield 19, 3) := by decide +kernel
theorem dX9_harm_35 : decode cX9_harm 35 = .ok (.iload_n 2, 1) := by decide +kernel
theorem dX9_harm_36 : decode cX9_harm 36 = .ok (.invokevirtual 259, 3) := by decide +kernel
theorem dX9_harm_39 : decode cX9_harm 39 = .ok (.istore_n 3, 1) := by decide +kernel
theorem dX9_harm_40 : decode cX9_harm 40 = .ok (.aload_n 0, 1) := by decide +kernel
theorem dX9_harm_41 : decode cX9_harm 41 = .ok (.getfield 62, 3) := by decide +kernel
theorem dX9_harm_44 : decode cX9_harm 44 = .ok (.aload_n 0, 1) := by decide +kernel
theorem dX9_harm_45 : decode cX9_harm 45 = .ok (.getfield 19, 3) := by decide +kernel
theorem dX9_harm_48 : decode cX9_harm 48 = .ok (.invokevirtual 224, 3) := by decide +kernel
theorem dX9_harm_51 : decode cX9_harm 51 = .ok (.aload_n 0, 1) := by decide +kernel
theorem dX9_harm_52 : decode cX9_harm 52 = .ok (.getfield 62, 3) := by decide +kernel
theorem dX9_harm_55 : decode cX9_harm 55 = .ok (.getfield 256, 3) := by decide +kernel
theorem dX9_harm_58 : decode cX9_harm 58 = .ok (.getfield 115, 3) := by decide +kernel
theorem dX9_harm_61 : decode cX9_harm 61 = .ok (.iload_n 1, 1) := by decide +kernel
theorem dX9_harm_62 : decode cX9_harm 62 = .ok (.aaload, 1) := by decide +kernel
theorem dX9_harm_63 : decode cX9_harm 63 = .ok (.iconst 0, 1) := by decide +kernel
theorem dX9_harm_64 : decode cX9_harm 64 = .ok (.putfield 133, 3) := by decide +kernel
theorem dX9_harm_67 : decode cX9_harm 67 = .ok (.aload_n 0, 1) := by decide +kernel
theorem dX9_harm_68 : decode cX9_harm 68 = .ok (.getfield 62, 3) := by decide +kernel
theorem dX9_harm_71 : decode cX9_harm 71 = .ok (.getfield 256, 3) := by decide +kernel
theorem dX9_harm_74 : decode cX9_harm 74 = .ok (.getfield 115, 3) := by decide +kernel
theorem dX9_harm_77 : decode cX9_harm 77 = .ok (.iload_n 1, 1) := by decide +kernel
theorem dX9_harm_78 : decode cX9_harm 78 = .ok (.aaload, 1) := by decide +kernel
theorem dX9_harm_79 : decode cX9_harm 79 = .ok (.iconst 0, 1) := by decide +kernel
theorem dX9_harm_80 : decode cX9_harm 80 = .ok (.putfield 136, 3) := by decide +kernel
theorem dX9_harm_83 : decode cX9_harm 83 = .ok (.iload_n 3, 1) := by decide +kernel
theorem dX9_harm_84 : decode cX9_harm 84 = .ok (.aload_n 0, 1) := by decide +kernel
theorem dX9_harm_85 : decode cX9_harm 85 = .ok (.getfield 53, 3) := by decide +kernel
theorem dX9_harm_88 : decode cX9_harm 88 = .ok (.aload_n 0, 1) := by decide +kernel
theorem dX9_harm_89 : decode cX9_harm 89 = .ok (.getfield 62, 3) := by decide +kernel
theorem dX9_harm_92 : decode cX9_harm 92 = .ok (.getfield 256, 3) := by decide +kernel
theorem dX9_harm_95 : decode cX9_harm 95 = .ok (.iload_n 2, 1) := by decide +kernel
theorem dX9_harm_96 : decode cX9_harm 96 = .ok (.invokevirtual 259, 3) := by decide +kernel
theorem dX9_harm_99 : decode cX9_harm 99 = .ok (.isub, 1) := by decide +kernel
theorem dX9_harm_100 : decode cX9_harm 100 = .ok (.ireturn, 1) := by decide +kernel
theorem dX9_ewe_0 : decode cX9_ewe 0 = .ok (.aload_n 0, 1) := by decide +kernel
theorem dX9_ewe_1 : decode cX9_ewe 1 = .ok (.getfield 19, 3) := by decide +kernel
theorem dX9_ewe_4 : decode cX9_ewe 4 = .ok (.iload_n 1, 1) := by decide +kernel
theorem dX9_ewe_5 : decode cX9_ewe 5 = .ok (.invokevirtual 204, 3) := by decide +kernel
theorem dX9_ewe_8 : decode cX9_ewe 8 = .ok (.ifCond .eq 33, 3) := by decide +kernel
theorem dX9_ewe_11 : decode cX9_ewe 11 = .ok (.aload_n 0, 1) := by decide +kernel
theorem dX9_ewe_12 : decode cX9_ewe 12 = .ok (.getfield 19, 3) := by decide +kernel
theorem dX9_ewe_15 : decode cX9_ewe 15 = .ok (.iload_n 2, 1) := by decide +kernel
theorem dX9_ewe_16 : decode cX9_ewe 16 = .ok (.invokevirtual 160, 3) := by decide +kernel
theorem dX9_ewe_19 : decode cX9_ewe 19 = .ok (.ifCond .eq 22, 3) := by decide +kernel
theorem dX9_ewe_22 : decode cX9_ewe 22 = .ok (.aload_n 0, 1) := by decide +kernel
theorem dX9_ewe_23 : decode cX9_ewe 23 = .ok (.getfield 19, 3) := by decide +kernel
theorem dX9_ewe_26 : decode cX9_ewe 26 = .ok (.iload_n 3, 1) := by decide +kernel
theorem dX9_ewe_27 : decode cX9_ewe 27 = .ok (.invokevirtual 170, 3) := by decide +kernel
theorem dX9_ewe_30 : decode cX9_ewe 30 = .ok (.ifCond .eq 11, 3) := by decide +kernel
theorem dX9_ewe_33 : decode cX9_ewe 33 = .ok (.iload 4, 2) := by decide +kernel
theorem dX9_ewe_35 : decode cX9_ewe 35 = .ok (.invokestatic 163, 3) := by decide +kernel
theorem dX9_ewe_38 : decode cX9_ewe 38 = .ok (.ifCond .ne 6, 3) := by decide +kernel
theorem dX9_ewe_41 : decode cX9_ewe 41 = .ok (.bipush (-2), 2) := by decide +kernel
theorem dX9_ewe_43 : decode cX9_ewe 43 = .ok (.ireturn, 1) := by decide +kernel
theorem dX9_ewe_44 : decode cX9_ewe 44 = .ok (.aload_n 0, 1) := by decide +kernel
theorem dX9_ewe_45 : decode cX9_ewe 45 = .ok (.getfield 62, 3) := by decide +kernel
theorem dX9_ewe_48 : decode cX9_ewe 48 = .ok (.aload_n 0, 1) := by decide +kernel
theorem dX9_ewe_49 : decode cX9_ewe 49 = .ok (.getfield 19, 3) := by decide +kernel
theorem dX9_ewe_52 : decode cX9_ewe 52 = .ok (.invokevirtual 224, 3) := by decide +kernel
theorem dX9_ewe_55 : decode cX9_ewe 55 = .ok (.aload_n 0, 1) := by decide +kernel
theorem dX9_ewe_56 : decode cX9_ewe 56 = .ok (.getfield 62, 3) := by decide +kernel
theorem dX9_ewe_59 : decode cX9_ewe 59 = .ok (.iload_n 1, 1) := by decide +kernel
theorem dX9_ewe_60 : decode cX9_ewe 60 = .ok (.iload_n 2, 1) := by decide +kernel
theorem dX9_ewe_61 : decode cX9_ewe 61 = .ok (.iload_n 3, 1) := by decide +kernel
theorem dX9_ewe_62 : decode cX9_ewe 62 = .ok (.invokevirtual 262, 3) := by decide +kernel
theorem dX9_ewe_65 : decode cX9_ewe 65 = .ok (.aload_n 0, 1) := by decide +kernel
theorem dX9_ewe_66 : decode cX9_ewe 66 = .ok (.getfield 62, 3) := by decide +kernel
theorem dX9_ewe_69 : decode cX9_ewe 69 = .ok (.iload 4, 2) := by decide +kernel
theorem dX9_ewe_71 : decode cX9_ewe 71 = .ok (.invokevirtual 266, 3) := by decide +kernel
theorem dX9_ewe_74 : decode cX9_ewe 74 = .ok (.ireturn, 1) := by decide +kernel
theorem dX9_waits_0 : decode cX9_waits 0 = .ok (.aload_n 0, 1) := by decide +kernel
theorem dX9_waits_1 : decode cX9_waits 1 = .ok (.getfield 19, 3) := by decide +kernel
theorem dX9_waits_4 : decode cX9_waits 4 = .ok (.iload_n 1, 1) := by decide +kernel
theorem dX9_waits_5 : decode cX9_waits 5 = .ok (.invokevirtual 204, 3) := by decide +kernel
theorem dX9_waits_8 : decode cX9_waits 8 = .ok (.ifCond .eq 36, 3) := by decide +kernel
theorem dX9_waits_11 : decode cX9_waits 11 = .ok (.aload_n 0, 1) := by decide +kernel
theorem dX9_waits_12 : decode cX9_waits 12 = .ok (.getfield 19, 3) := by decide +kernel
theorem dX9_waits_15 : decode cX9_waits 15 = .ok (.iload_n 2, 1) := by decide +kernel
theorem dX9_waits_16 : decode cX9_waits 16 = .ok (.invokevirtual 160, 3) := by decide +kernel
theorem dX9_waits_19 : decode cX9_waits 19 = .ok (.ifCond .eq 25, 3) := by decide +kernel
theorem dX9_waits_22 : decode cX9_waits 22 = .ok (.aload_n 0, 1) := by decide +kernel
theorem dX9_waits_23 : decode cX9_waits 23 = .ok (.getfield 19, 3) := by decide +kernel
theorem dX9_waits_26 : decode cX9_waits 26 = .ok (.iload_n 3, 1) := by decide +kernel
theorem dX9_waits_27 : decode cX9_waits 27 = .ok (.invokevirtual 170, 3) := by decide +kernel
theorem dX9_waits_30 : decode cX9_waits 30 = .ok (.ifCond .eq 14, 3) := by decide +kernel
theorem dX9_waits_33 : decode cX9_waits 33 = .ok (.iload 4, 2) := by decide +kernel
theorem dX9_waits_35 : decode cX9_waits 35 = .ok (.ifCond .lt 9, 3) := by decide +kernel
theorem dX9_waits_38 : decode cX9_waits 38 = .ok (.iload 4, 2) := by decide +kernel
theorem dX9_waits_40 : decode cX9_waits 40 = .ok (.iconst 1, 1) := by decide +kernel
theorem dX9_waits_41 : decode cX9_waits 41 = .ok (.if_icmp .le 6, 3) := by decide +kernel
theorem dX9_waits_44 : decode cX9_waits 44 = .ok (.bipush (-2), 2) := by decide +kernel
theorem dX9_waits_46 : decode cX9_waits 46 = .ok (.ireturn, 1) := by decide +kernel
theorem dX9_waits_47 : decode cX9_waits 47 = .ok (.aload_n 0, 1) := by decide +kernel
theorem dX9_waits_48 : decode cX9_waits 48 = .ok (.getfield 62, 3) := by decide +kernel
theorem dX9_waits_51 : decode cX9_waits 51 = .ok (.aload_n 0, 1) := by decide +kernel
theorem dX9_waits_52 : decode cX9_waits 52 = .ok (.getfield 19, 3) := by decide +kernel
theorem dX9_waits_55 : decode cX9_waits 55 = .ok (.invokevirtual 224, 3) := by decide +kernel
theorem dX9_waits_58 : decode cX9_waits 58 = .ok (.aload_n 0, 1) := by decide +kernel
theorem dX9_waits_59 : decode cX9_waits 59 = .ok (.getfield 62, 3) := by decide +kernel
theorem dX9_waits_62 : decode cX9_waits 62 = .ok (.iload_n 1, 1) := by decide +kernel
theorem dX9_waits_63 : decode cX9_waits 63 = .ok (.iload_n 2, 1) := by decide +kernel
theorem dX9_waits_64 : decode cX9_waits 64 = .ok (.iload_n 3, 1) := by decide +kernel
theorem dX9_waits_65 : decode cX9_waits 65 = .ok (.invokevirtual 262, 3) := by decide +kernel
theorem dX9_waits_68 : decode cX9_waits 68 = .ok (.iconst 0, 1) := by decide +kernel
theorem dX9_waits_69 : decode cX9_waits 69 = .ok (.istore 5, 2) := by decide +kernel
theorem dX9_waits_71 : decode cX9_waits 71 = .ok (.aload_n 0, 1) := by decide +kernel
theorem dX9_waits_72 : decode cX9_waits 72 = .ok (.getfield 62, 3) := by decide +kernel
theorem dX9_waits_75 : decode cX9_waits 75 = .ok (.iconst 0, 1) := by decide +kernel
theorem dX9_waits_76 : decode cX9_waits 76 = .ok (.invokevirtual 266, 3) := by decide +kernel
theorem dX9_waits_79 : decode cX9_waits 79 = .ok (.istore 6, 2) := by decide +kernel
theorem dX9_waits_81 : decode cX9_waits 81 = .ok (.iconst 1, 1) := by decide +kernel
theorem dX9_waits_82 : decode cX9_waits 82 = .ok (.istore 7, 2) := by decide +kernel
theorem dX9_waits_84 : decode cX9_waits 84 = .ok (.iload 7, 2) := by decide +kernel
theorem dX9_waits_86 : decode cX9_waits 86 = .ok (.bipush 24, 2) := by decide +kernel
theorem dX9_waits_88 : decode cX9_waits 88 = .ok (.if_icmp .ge 35, 3) := by decide +kernel
theorem dX9_waits_91 : decode cX9_waits 91 = .ok (.aload_n 0, 1) := by decide +kernel
theorem dX9_waits_92 : decode cX9_waits 92 = .ok (.getfield 62, 3) := by decide +kernel
theorem dX9_waits_95 : decode cX9_waits 95 = .ok (.iload 7, 2) := by decide +kernel
theorem dX9_waits_97 : decode cX9_waits 97 = .ok (.invokevirtual 266, 3) := by decide +kernel
theorem dX9_waits_100 : decode cX9_waits 100 = .ok (.istore 8, 2) := by decide +kernel
theorem dX9_waits_102 : decode cX9_waits 102 = .ok (.iload 8, 2) := by decide +kernel
theorem dX9_waits_104 : decode cX9_waits 104 = .ok (.iload 6, 2) := by decide +kernel
theorem dX9_waits_106 : decode cX9_waits 106 = .ok (.if_icmp .le 11, 3) := by decide +kernel
theorem dX9_waits_109 : decode cX9_waits 109 = .ok (.iload 8, 2) := by decide +kernel
theorem dX9_waits_111 : decode cX9_waits 111 = .ok (.istore 6, 2) := by decide +kernel
theorem dX9_waits_113 : decode cX9_waits 113 = .ok (.iload 7, 2) := by decide +kernel
theorem dX9_waits_115 : decode cX9_waits 115 = .ok (.istore 5, 2) := by decide +kernel
theorem dX9_waits_117 : decode cX9_waits 117 = .ok (.iinc 7 1, 3) := by decide +kernel
theorem dX9_waits_120 : decode cX9_waits 120 = .ok (.goto (-36), 3) := by decide +kernel
theorem dX9_waits_123 : decode cX9_waits 123 = .ok (.iload 4, 2) := by decide +kernel
theorem dX9_waits_125 : decode cX9_waits 125 = .ok (.ifCond .ne 8, 3) := by decide +kernel
theorem dX9_waits_128 : decode cX9_waits 128 = .ok (.iload 5, 2) := by decide +kernel
theorem dX9_waits_130 : decode cX9_waits 130 = .ok (.goto 5, 3) := by decide +kernel
theorem dX9_waits_133 : decode cX9_waits 133 = .ok (.iload 6, 2) := by decide +kernel
theorem dX9_waits_135 : decode cX9_waits 135 = .ok (.ireturn, 1) := by decide +kernel
theorem dX9_ring_0 : decode cX9_ring 0 = .ok (.aload_n 0, 1) := by decide +kernel
theorem dX9_ring_1 : decode cX9_ring 1 = .ok (.iload_n 1, 1) := by decide +kernel
theorem dX9_ring_2 : decode cX9_ring 2 = .ok (.iload_n 2, 1) := by decide +kernel
theorem dX9_ring_3 : decode cX9_ring 3 = .ok (.invokevirtual 269, 3) := by decide +kernel
theorem dX9_ring_6 : decode cX9_ring 6 = .ok (.ifCond .eq 13, 3) := by decide +kernel
theorem dX9_ring_9 : decode cX9_ring 9 = .ok (.iload_n 3, 1) := by decide +kernel
theorem dX9_ring_10 : decode cX9_ring 10 = .ok (.ifCond .lt 9, 3) := by decide +kernel
theorem dX9_ring_13 : decode cX9_ring 13 = .ok (.iload_n 3, 1) := by decide +kernel
theorem dX9_ring_14 : decode cX9_ring 14 = .ok (.bipush 99, 2) := by decide +kernel
theorem dX9_ring_16 : decode cX9_ring 16 = .ok (.if_icmp .le 6, 3) := by decide +kernel
theorem dX9_ring_19 : decode cX9_ring 19 = .ok (.bipush (-2), 2) := by decide +kernel
theorem dX9_ring_21 : decode cX9_ring 21 = .ok (.ireturn, 1) := by decide +kernel
theorem dX9_ring_22 : decode cX9_ring 22 = .ok (.aload_n 0, 1) := by decide +kernel
theorem dX9_ring_23 : decode cX9_ring 23 = .ok (.getfield 53, 3) := by decide +kernel
theorem dX9_ring_26 : decode cX9_ring 26 = .ok (.aload_n 0, 1) := by decide +kernel
theorem dX9_ring_27 : decode cX9_ring 27 = .ok (.getfield 19, 3) := by decide +kernel
theorem dX9_ring_30 : decode cX9_ring 30 = .ok (.invokevirtual 272, 3) := by decide +kernel
theorem dX9_ring_33 : decode cX9_ring 33 = .ok (.aload_n 0, 1) := by decide +kernel
theorem dX9_ring_34 : decode cX9_ring 34 = .ok (.getfield 53, 3) := by decide +kernel
theorem dX9_ring_37 : decode cX9_ring 37 = .ok (.aload_n 0, 1) := by decide +kernel
theorem dX9_ring_38 : decode cX9_ring 38 = .ok (.getfield 19, 3) := by decide +kernel
theorem dX9_ring_41 : decode cX9_ring 41 = .ok (.iload_n 1, 1) := by decide +kernel
theorem dX9_ring_42 : decode cX9_ring 42 = .ok (.invokevirtual 180, 3) := by decide +kernel
theorem dX9_ring_45 : decode cX9_ring 45 = .ok (.aload_n 0, 1) := by decide +kernel
theorem dX9_ring_46 : decode cX9_ring 46 = .ok (.getfield 19, 3) := by decide +kernel
theorem dX9_ring_49 : decode cX9_ring 49 = .ok (.getfield 156, 3) := by decide +kernel
theorem dX9_ring_52 : decode cX9_ring 52 = .ok (.iconst 3, 1) := by decide +kernel
theorem dX9_ring_53 : decode cX9_ring 53 = .ok (.iaload, 1) := by decide +kernel
theorem dX9_ring_54 : decode cX9_ring 54 = .ok (.iload_n 2, 1) := by decide +kernel
theorem dX9_ring_55 : decode cX9_ring 55 = .ok (.iload_n 3, 1) := by decide +kernel
theorem dX9_ring_56 : decode cX9_ring 56 = .ok (.imul, 1) := by decide +kernel
theorem dX9_ring_57 : decode cX9_ring 57 = .ok (.invokevirtual 275, 3) := by decide +kernel
theorem dX9_ring_60 : decode cX9_ring 60 = .ok (.ireturn, 1) := by decide +kernel
theorem dX9_rounds_0 : decode cX9_rounds 0 = .ok (.aload_n 0, 1) := by decide +kernel
theorem dX9_rounds_1 : decode cX9_rounds 1 = .ok (.iload_n 1, 1) := by decide +kernel
theorem dX9_rounds_2 : decode cX9_rounds 2 = .ok (.iload_n 2, 1) := by decide +kernel
theorem dX9_rounds_3 : decode cX9_rounds 3 = .ok (.invokevirtual 269, 3) := by decide +kernel
theorem dX9_rounds_6 : decode cX9_rounds 6 = .ok (.ifCond .ne 6, 3) := by decide +kernel
theorem dX9_rounds_9 : decode cX9_rounds 9 = .ok (.bipush (-2), 2) := by decide +kernel
theorem dX9_rounds_11 : decode cX9_rounds 11 = .ok (.ireturn, 1) := by decide +kernel
theorem dX9_rounds_12 : decode cX9_rounds 12 = .ok (.aload_n 0, 1) := by decide +kernel
theorem dX9_rounds_13 : decode cX9_rounds 13 = .ok (.getfield 53, 3) := by decide +kernel
theorem dX9_rounds_16 : decode cX9_rounds 16 = .ok (.aload_n 0, 1) := by decide +kernel
theorem dX9_rounds_17 : decode cX9_rounds 17 = .ok (.getfield 19, 3) := by decide +kernel
theorem dX9_rounds_20 : decode cX9_rounds 20 = .ok (.iload_n 1, 1) := by decide +kernel
theorem dX9_rounds_21 : decode cX9_rounds 21 = .ok (.invokevirtual 221, 3) := by decide +kernel
theorem dX9_rounds_24 : decode cX9_rounds 24 = .ok (.istore_n 3, 1) := by decide +kernel
theorem dX9_rounds_25 : decode cX9_rounds 25 = .ok (.aload_n 0, 1) := by decide +kernel
theorem dX9_rounds_26 : decode cX9_rounds 26 = .ok (.getfield 19, 3) := by decide +kernel
theorem dX9_rounds_29 : decode cX9_rounds 29 = .ok (.getfield 156, 3) := by decide +kernel
theorem dX9_rounds_32 : decode cX9_rounds 32 = .ok (.iconst 3, 1) := by decide +kernel
theorem dX9_rounds_33 : decode cX9_rounds 33 = .ok (.iaload, 1) := by decide +kernel
theorem dX9_rounds_34 : decode cX9_rounds 34 = .ok (.istore 4, 2) := by decide +kernel
theorem dX9_rounds_36 : decode cX9_rounds 36 = .ok (.iconst 1, 1) := by decide +kernel
theorem dX9_rounds_37 : decode cX9_rounds 37 = .ok (.istore 5, 2) := by decide +kernel
theorem dX9_rounds_39 : decode cX9_rounds 39 = .ok (.iload 5, 2) := by decide +kernel
theorem dX9_rounds_41 : decode cX9_rounds 41 = .ok (.iload 4, 2) := by decide +kernel
theorem dX9_rounds_43 : decode cX9_rounds 43 = .ok (.if_icmp .gt 32, 3) := by decide +kernel
theorem dX9_rounds_46 : decode cX9_rounds 46 = .ok (.iload 5, 2) := by decide +kernel
theorem dX9_rounds_48 : decode cX9_rounds 48 = .ok (.iload_n 2, 1) := by decide +kernel
theorem dX9_rounds_49 : decode cX9_rounds 49 = .ok (.imul, 1) := by decide +kernel
theorem dX9_rounds_50 : decode cX9_rounds 50 = .ok (.iload_n 3, 1) := by decide +kernel
theorem dX9_rounds_51 : decode cX9_rounds 51 = .ok (.if_icmp .lt 18, 3) := by decide +kernel
theorem dX9_rounds_54 : decode cX9_rounds 54 = .ok (.iload 5, 2) := by decide +kernel
theorem dX9_rounds_56 : decode cX9_rounds 56 = .ok (.iload_n 2, 1) := by decide +kernel
theorem dX9_rounds_57 : decode cX9_rounds 57 = .ok (.imul, 1) := by decide +kernel
theorem dX9_rounds_58 : decode cX9_rounds 58 = .ok (.iload_n 3, 1) := by decide +kernel
theorem dX9_rounds_59 : decode cX9_rounds 59 = .ok (.isub, 1) := by decide +kernel
theorem dX9_rounds_60 : decode cX9_rounds 60 = .ok (.iload 4, 2) := by decide +kernel
theorem dX9_rounds_62 : decode cX9_rounds 62 = .ok (.irem, 1) := by decide +kernel
theorem dX9_rounds_63 : decode cX9_rounds 63 = .ok (.ifCond .ne 6, 3) := by decide +kernel
theorem dX9_rounds_66 : decode cX9_rounds 66 = .ok (.iload 5, 2) := by decide +kernel
theorem dX9_rounds_68 : decode cX9_rounds 68 = .ok (.ireturn, 1) := by decide +kernel
theorem dX9_rounds_69 : decode cX9_rounds 69 = .ok (.iinc 5 1, 3) := by decide +kernel
theorem dX9_rounds_72 : decode cX9_rounds 72 = .ok (.goto (-33), 3) := by decide +kernel
theorem dX9_rounds_75 : decode cX9_rounds 75 = .ok (.iconst (-1), 1) := by decide +kernel
theorem dX9_rounds_76 : decode cX9_rounds 76 = .ok (.ireturn, 1) := by decide +kernel
theorem dX9_isRing_0 : decode cX9_isRing 0 = .ok (.aload_n 0, 1) := by decide +kernel
theorem dX9_isRing_1 : decode cX9_isRing 1 = .ok (.getfield 19, 3) := by decide +kernel
theorem dX9_isRing_4 : decode cX9_isRing 4 = .ok (.iload_n 1, 1) := by decide +kernel
theorem dX9_isRing_5 : decode cX9_isRing 5 = .ok (.invokevirtual 160, 3) := by decide +kernel
theorem dX9_isRing_8 : decode cX9_isRing 8 = .ok (.ifCond .eq 19, 3) := by decide +kernel
theorem dX9_isRing_11 : decode cX9_isRing 11 = .ok (.iload_n 2, 1) := by decide +kernel
theorem dX9_isRing_12 : decode cX9_isRing 12 = .ok (.iconst 1, 1) := by decide +kernel
theorem dX9_isRing_13 : decode cX9_isRing 13 = .ok (.if_icmp .lt 14, 3) := by decide +kernel
theorem dX9_isRing_16 : decode cX9_isRing 16 = .ok (.iload_n 2, 1) := by decide +kernel
theorem dX9_isRing_17 : decode cX9_isRing 17 = .ok (.sipush 999, 3) := by decide +kernel
theorem dX9_isRing_20 : decode cX9_isRing 20 = .ok (.if_icmp .gt 7, 3) := by decide +kernel
theorem dX9_isRing_23 : decode cX9_isRing 23 = .ok (.iconst 1, 1) := by decide +kernel
theorem dX9_isRing_24 : decode cX9_isRing 24 = .ok (.goto 4, 3) := by decide +kernel
theorem dX9_isRing_27 : decode cX9_isRing 27 = .ok (.iconst 0, 1) := by decide +kernel
theorem dX9_isRing_28 : decode cX9_isRing 28 = .ok (.ireturn, 1) := by decide +kernel
theorem dX9_orders_0 : decode cX9_orders 0 = .ok (.aload_n 0, 1) := by decide +kernel
theorem dX9_orders_1 : decode cX9_orders 1 = .ok (.iload_n 1, 1) := by decide +kernel
theorem dX9_orders_2 : decode cX9_orders 2 = .ok (.iload_n 2, 1) := by decide +kernel
theorem dX9_orders_3 : decode cX9_orders 3 = .ok (.iload_n 3, 1) := by decide +kernel
theorem dX9_orders_4 : decode cX9_orders 4 = .ok (.invokevirtual 279, 3) := by decide +kernel
theorem dX9_orders_7 : decode cX9_orders 7 = .ok (.istore 4, 2) := by decide +kernel
theorem dX9_orders_9 : decode cX9_orders 9 = .ok (.iload 4, 2) := by decide +kernel
theorem dX9_orders_11 : decode cX9_orders 11 = .ok (.ifCond .eq 8, 3) := by decide +kernel
theorem dX9_orders_14 : decode cX9_orders 14 = .ok (.iload 4, 2) := by decide +kernel
theorem dX9_orders_16 : decode cX9_orders 16 = .ok (.goto 10, 3) := by decide +kernel
theorem dX9_orders_19 : decode cX9_orders 19 = .ok (.aload_n 0, 1) := by decide +kernel
theorem dX9_orders_20 : decode cX9_orders 20 = .ok (.getfield 69, 3) := by decide +kernel
theorem dX9_orders_23 : decode cX9_orders 23 = .ok (.getfield 282, 3) := by decide +kernel
theorem dX9_orders_26 : decode cX9_orders 26 = .ok (.ireturn, 1) := by decide +kernel
theorem dX9_order_0 : decode cX9_order 0 = .ok (.aload_n 0, 1) := by decide +kernel
theorem dX9_order_1 : decode cX9_order 1 = .ok (.iload_n 1, 1) := by decide +kernel
theorem dX9_order_2 : decode cX9_order 2 = .ok (.iload_n 2, 1) := by decide +kernel
theorem dX9_order_3 : decode cX9_order 3 = .ok (.iload_n 3, 1) := by decide +kernel
theorem dX9_order_4 : decode cX9_order 4 = .ok (.invokevirtual 279, 3) := by decide +kernel
theorem dX9_order_7 : decode cX9_order 7 = .ok (.istore 5, 2) := by decide +kernel
theorem dX9_order_9 : decode cX9_order 9 = .ok (.iload 5, 2) := by decide +kernel
theorem dX9_order_11 : decode cX9_order 11 = .ok (.ifCond .eq 6, 3) := by decide +kernel
theorem dX9_order_14 : decode cX9_order 14 = .ok (.iload 5, 2) := by decide +kernel
theorem dX9_order_16 : decode cX9_order 16 = .ok (.ireturn, 1) := by decide +kernel
theorem dX9_order_17 : decode cX9_order 17 = .ok (.aload_n 0, 1) := by decide +kernel
theorem dX9_order_18 : decode cX9_order 18 = .ok (.getfield 69, 3) := by decide +kernel
theorem dX9_order_21 : decode cX9_order 21 = .ok (.getfield 282, 3) := by decide +kernel
theorem dX9_order_24 : decode cX9_order 24 = .ok (.ifCond .eq 20, 3) := by decide +kernel
theorem dX9_order_27 : decode cX9_order 27 = .ok (.iload 4, 2) := by decide +kernel
theorem dX9_order_29 : decode cX9_order 29 = .ok (.ifCond .lt 15, 3) := by decide +kernel
theorem dX9_order_32 : decode cX9_order 32 = .ok (.iload 4, 2) := by decide +kernel
theorem dX9_order_34 : decode cX9_order 34 = .ok (.aload_n 0, 1) := by decide +kernel
theorem dX9_order_35 : decode cX9_order 35 = .ok (.getfield 69, 3) := by decide +kernel
theorem dX9_order_38 : decode cX9_order 38 = .ok (.getfield 285, 3) := by decide +kernel
theorem dX9_order_41 : decode cX9_order 41 = .ok (.if_icmp .lt 5, 3) := by decide +kernel
theorem dX9_order_44 : decode cX9_order 44 = .ok (.iconst (-1), 1) := by decide +kernel
theorem dX9_order_45 : decode cX9_order 45 = .ok (.ireturn, 1) := by decide +kernel
theorem dX9_order_46 : decode cX9_order 46 = .ok (.aload_n 0, 1) := by decide +kernel
theorem dX9_order_47 : decode cX9_order 47 = .ok (.getfield 69, 3) := by decide +kernel
theorem dX9_order_50 : decode cX9_order 50 = .ok (.getfield 288, 3) := by decide +kernel
theorem dX9_order_53 : decode cX9_order 53 = .ok (.iload 4, 2) := by decide +kernel
theorem dX9_order_55 : decode cX9_order 55 = .ok (.iaload, 1) := by decide +kernel
theorem dX9_order_56 : decode cX9_order 56 = .ok (.ireturn, 1) := by decide +kernel
theorem dX9_sure_0 : decode cX9_sure 0 = .ok (.aload_n 0, 1) := by decide +kernel
theorem dX9_sure_1 : decode cX9_sure 1 = .ok (.getfield 19, 3) := by decide +kernel
theorem dX9_sure_4 : decode cX9_sure 4 = .ok (.iload 4, 2) := by decide +kernel
theorem dX9_sure_6 : decode cX9_sure 6 = .ok (.invokevirtual 111, 3) := by decide +kernel
theorem dX9_sure_9 : decode cX9_sure 9 = .ok (.ifCond .ne 6, 3) := by decide +kernel
theorem dX9_sure_12 : decode cX9_sure 12 = .ok (.bipush (-2), 2) := by decide +kernel
theorem dX9_sure_14 : decode cX9_sure 14 = .ok (.ireturn, 1) := by decide +kernel
theorem dX9_sure_15 : decode cX9_sure 15 = .ok (.aload_n 0, 1) := by decide +kernel
theorem dX9_sure_16 : decode cX9_sure 16 = .ok (.iload_n 1, 1) := by decide +kernel
theorem dX9_sure_17 : decode cX9_sure 17 = .ok (.iload_n 2, 1) := by decide +kernel
theorem dX9_sure_18 : decode cX9_sure 18 = .ok (.iload_n 3, 1) := by decide +kernel
theorem dX9_sure_19 : decode cX9_sure 19 = .ok (.invokevirtual 279, 3) := by decide +kernel
theorem dX9_sure_22 : decode cX9_sure 22 = .ok (.istore 5, 2) := by decide +kernel
theorem dX9_sure_24 : decode cX9_sure 24 = .ok (.iload 5, 2) := by decide +kernel
theorem dX9_sure_26 : decode cX9_sure 26 = .ok (.ifCond .eq 8, 3) := by decide +kernel
theorem dX9_sure_29 : decode cX9_sure 29 = .ok (.iload 5, 2) := by decide +kernel
theorem dX9_sure_31 : decode cX9_sure 31 = .ok (.goto 13, 3) := by decide +kernel
theorem dX9_sure_34 : decode cX9_sure 34 = .ok (.aload_n 0, 1) := by decide +kernel
theorem dX9_sure_35 : decode cX9_sure 35 = .ok (.getfield 69, 3) := by decide +kernel
theorem dX9_sure_38 : decode cX9_sure 38 = .ok (.getfield 291, 3) := by decide +kernel

theorem dX0_init_0 : decode cX0_init 0 = .ok (.aload_n 0, 1) := by decide +kernel
theorem dX0_init_1 : decode cX0_init 1 = .ok (.invokespecial 1, 3) := by decide +kernel
theorem dX0_init_4 : decode cX0_init 4 = .ok (.return_, 1) := by decide +kernel
theorem dX0_copy_0 : decode cX0_copy 0 = .ok (.aload_n 0, 1) := by decide +kernel
theorem dX0_copy_1 : decode cX0_copy 1 = .ok (.aload_n 1, 1) := by decide +kernel
theorem dX0_copy_2 : decode cX0_copy 2 = .ok (.getfield 7, 3) := by decide +kernel
theorem dX0_copy_5 : decode cX0_copy 5 = .ok (.putfield 7, 3) := by decide +kernel
theorem dX0_copy_8 : decode cX0_copy 8 = .ok (.aload_n 0, 1) := by decide +kernel
theorem dX0_copy_9 : decode cX0_copy 9 = .ok (.aload_n 1, 1) := by decide +kernel
theorem dX0_copy_10 : decode cX0_copy 10 = .ok (.getfield 13, 3) := by decide +kernel
theorem dX0_copy_13 : decode cX0_copy 13 = .ok (.putfield 13, 3) := by decide +kernel
theorem dX0_copy_16 : decode cX0_copy 16 = .ok (.aload_n 0, 1) := by decide +kernel
theorem dX0_copy_17 : decode cX0_copy 17 = .ok (.aload_n 1, 1) := by decide +kernel
theorem dX0_copy_18 : decode cX0_copy 18 = .ok (.getfield 16, 3) := by decide +kernel
theorem dX0_copy_21 : decode cX0_copy 21 = .ok (.putfield 16, 3) := by decide +kernel
theorem dX0_copy_24 : decode cX0_copy 24 = .ok (.aload_n 0, 1) := by decide +kernel
theorem dX0_copy_25 : decode cX0_copy 25 = .ok (.aload_n 1, 1) := by decide +kernel
theorem dX0_copy_26 : decode cX0_copy 26 = .ok (.getfield 19, 3) := by decide +kernel
theorem dX0_copy_29 : decode cX0_copy 29 = .ok (.putfield 19, 3) := by decide +kernel
theorem dX0_copy_32 : decode cX0_copy 32 = .ok (.aload_n 0, 1) := by decide +kernel
theorem dX0_copy_33 : decode cX0_copy 33 = .ok (.aload_n 1, 1) := by decide +kernel
theorem dX0_copy_34 : decode cX0_copy 34 = .ok (.getfield 22, 3) := by decide +kernel
theorem dX0_copy_37 : decode cX0_copy 37 = .ok (.putfield 22, 3) := by decide +kernel
theorem dX0_copy_40 : decode cX0_copy 40 = .ok (.aload_n 0, 1) := by decide +kernel
theorem dX0_copy_41 : decode cX0_copy 41 = .ok (.aload_n 1, 1) := by decide +kernel
theorem dX0_copy_42 : decode cX0_copy 42 = .ok (.getfield 25, 3) := by decide +kernel
theorem dX0_copy_45 : decode cX0_copy 45 = .ok (.putfield 25, 3) := by decide +kernel
theorem dX0_copy_48 : decode cX0_copy 48 = .ok (.aload_n 0, 1) := by decide +kernel
theorem dX0_copy_49 : decode cX0_copy 49 = .ok (.aload_n 1, 1) := by decide +kernel
theorem dX0_copy_50 : decode cX0_copy 50 = .ok (.getfield 28, 3) := by decide +kernel
theorem dX0_copy_53 : decode cX0_copy 53 = .ok (.putfield 28, 3) := by decide +kernel
theorem dX0_copy_56 : decode cX0_copy 56 = .ok (.aload_n 0, 1) := by decide +kernel
theorem dX0_copy_57 : decode cX0_copy 57 = .ok (.aload_n 1, 1) := by decide +kernel
theorem dX0_copy_58 : decode cX0_copy 58 = .ok (.getfield 31, 3) := by decide +kernel
theorem dX0_copy_61 : decode cX0_copy 61 = .ok (.putfield 31, 3) := by decide +kernel
theorem dX0_copy_64 : decode cX0_copy 64 = .ok (.return_, 1) := by decide +kernel
theorem dX0_countable_0 : decode cX0_countable 0 = .ok (.iload_n 1, 1) := by decide +kernel
theorem dX0_countable_1 : decode cX0_countable 1 = .ok (.ifCond .eq 15, 3) := by decide +kernel
theorem dX0_countable_4 : decode cX0_countable 4 = .ok (.aload_n 0, 1) := by decide +kernel
theorem dX0_countable_5 : decode cX0_countable 5 = .ok (.getfield 22, 3) := by decide +kernel
theorem dX0_countable_8 : decode cX0_countable 8 = .ok (.aload_n 0, 1) := by decide +kernel
theorem dX0_countable_9 : decode cX0_countable 9 = .ok (.getfield 25, 3) := by decide +kernel
theorem dX0_countable_12 : decode cX0_countable 12 = .ok (.iadd, 1) := by decide +kernel
theorem dX0_countable_13 : decode cX0_countable 13 = .ok (.goto 7, 3) := by decide +kernel
theorem dX0_countable_16 : decode cX0_countable 16 = .ok (.aload_n 0, 1) := by decide +kernel
theorem dX0_countable_17 : decode cX0_countable 17 = .ok (.getfield 22, 3) := by decide +kernel
theorem dX0_countable_20 : decode cX0_countable 20 = .ok (.ireturn, 1) := by decide +kernel
theorem dX0_whither_0 : decode cX0_whither 0 = .ok (.bipush 100, 2) := by decide +kernel
theorem dX0_whither_2 : decode cX0_whither 2 = .ok (.aload_n 0, 1) := by decide +kernel
theorem dX0_whither_3 : decode cX0_whither 3 = .ok (.getfield 13, 3) := by decide +kernel
theorem dX0_whither_6 : decode cX0_whither 6 = .ok (.imul, 1) := by decide +kernel
theorem dX0_whither_7 : decode cX0_whither 7 = .ok (.aload_n 0, 1) := by decide +kernel
theorem dX0_whither_8 : decode cX0_whither 8 = .ok (.getfield 19, 3) := by decide +kernel
theorem dX0_whither_11 : decode cX0_whither 11 = .ok (.iadd, 1) := by decide +kernel
theorem dX0_whither_12 : decode cX0_whither 12 = .ok (.ireturn, 1) := by decide +kernel
theorem dX1_init_0 : decode cX1_init 0 = .ok (.aload_n 0, 1) := by decide +kernel
theorem dX1_init_1 : decode cX1_init 1 = .ok (.invokespecial 3, 3) := by decide +kernel
theorem dX1_init_4 : decode cX1_init 4 = .ok (.aload_n 0, 1) := by decide +kernel
theorem dX1_init_5 : decode cX1_init 5 = .ok (.sipush 2376, 3) := by decide +kernel
theorem dX1_init_8 : decode cX1_init 8 = .ok (.newarray .byte, 2) := by decide +kernel
theorem dX1_init_10 : decode cX1_init 10 = .ok (.putfield 9, 3) := by decide +kernel
theorem dX1_init_13 : decode cX1_init 13 = .ok (.aload_n 0, 1) := by decide +kernel
theorem dX1_init_14 : decode cX1_init 14 = .ok (.aload_n 1, 1) := by decide +kernel
theorem dX1_init_15 : decode cX1_init 15 = .ok (.putfield 15, 3) := by decide +kernel
theorem dX1_init_18 : decode cX1_init 18 = .ok (.return_, 1) := by decide +kernel
theorem dX1_sumOf_0 : decode cX1_sumOf 0 = .ok (.aload_n 0, 1) := by decide +kernel
theorem dX1_sumOf_1 : decode cX1_sumOf 1 = .ok (.iload_n 2, 1) := by decide +kernel
theorem dX1_sumOf_2 : decode cX1_sumOf 2 = .ok (.i2l, 1) := by decide +kernel
theorem dX1_sumOf_3 : decode cX1_sumOf 3 = .ok (.putfield 19, 3) := by decide +kernel
theorem dX1_sumOf_6 : decode cX1_sumOf 6 = .ok (.aload_n 0, 1) := by decide +kernel
theorem dX1_sumOf_7 : decode cX1_sumOf 7 = .ok (.getfield 15, 3) := by decide +kernel
theorem dX1_sumOf_10 : decode cX1_sumOf 10 = .ok (.aload_n 1, 1) := by decide +kernel
theorem dX1_sumOf_11 : decode cX1_sumOf 11 = .ok (.invokevirtual 23, 3) := by decide +kernel
theorem dX1_sumOf_14 : decode cX1_sumOf 14 = .ok (.aload_n 0, 1) := by decide +kernel
theorem dX1_sumOf_15 : decode cX1_sumOf 15 = .ok (.iconst 0, 1) := by decide +kernel
theorem dX1_sumOf_16 : decode cX1_sumOf 16 = .ok (.putfield 29, 3) := by decide +kernel
theorem dX1_sumOf_19 : decode cX1_sumOf 19 = .ok (.iconst 0, 1) := by decide +kernel
theorem dX1_sumOf_20 : decode cX1_sumOf 20 = .ok (.istore 4, 2) := by decide +kernel
theorem dX1_sumOf_22 : decode cX1_sumOf 22 = .ok (.iconst 0, 1) := by decide +kernel
theorem dX1_sumOf_23 : decode cX1_sumOf 23 = .ok (.istore 5, 2) := by decide +kernel
theorem dX1_sumOf_25 : decode cX1_sumOf 25 = .ok (.iload 5, 2) := by decide +kernel
theorem dX1_sumOf_27 : decode cX1_sumOf 27 = .ok (.aload_n 0, 1) := by decide +kernel
theorem dX1_sumOf_28 : decode cX1_sumOf 28 = .ok (.getfield 15, 3) := by decide +kernel
theorem dX1_sumOf_31 : decode cX1_sumOf 31 = .ok (.getfield 33, 3) := by decide +kernel
theorem dX1_sumOf_34 : decode cX1_sumOf 34 = .ok (.if_icmp .ge 97, 3) := by decide +kernel
theorem dX1_sumOf_37 : decode cX1_sumOf 37 = .ok (.aload_n 0, 1) := by decide +kernel
theorem dX1_sumOf_38 : decode cX1_sumOf 38 = .ok (.getfield 15, 3) := by decide +kernel
theorem dX1_sumOf_41 : decode cX1_sumOf 41 = .ok (.getfield 34, 3) := by decide +kernel
theorem dX1_sumOf_44 : decode cX1_sumOf 44 = .ok (.iload 5, 2) := by decide +kernel
theorem dX1_sumOf_46 : decode cX1_sumOf 46 = .ok (.iaload, 1) := by decide +kernel
theorem dX1_sumOf_47 : decode cX1_sumOf 47 = .ok (.istore 6, 2) := by decide +kernel
theorem dX1_sumOf_49 : decode cX1_sumOf 49 = .ok (.aload_n 0, 1) := by decide +kernel
theorem dX1_sumOf_50 : decode cX1_sumOf 50 = .ok (.aload_n 1, 1) := by decide +kernel
theorem dX1_sumOf_51 : decode cX1_sumOf 51 = .ok (.getfield 38, 3) := by decide +kernel
theorem dX1_sumOf_54 : decode cX1_sumOf 54 = .ok (.iload 6, 2) := by decide +kernel
theorem dX1_sumOf_56 : decode cX1_sumOf 56 = .ok (.invokestatic 44, 3) := by decide +kernel
theorem dX1_sumOf_59 : decode cX1_sumOf 59 = .ok (.aaload, 1) := by decide +kernel
theorem dX1_sumOf_60 : decode cX1_sumOf 60 = .ok (.iload 6, 2) := by decide +kernel
theorem dX1_sumOf_62 : decode cX1_sumOf 62 = .ok (.invokestatic 44, 3) := by decide +kernel
theorem dX1_sumOf_65 : decode cX1_sumOf 65 = .ok (.invokevirtual 48, 3) := by decide +kernel
theorem dX1_sumOf_68 : decode cX1_sumOf 68 = .ok (.iload 5, 2) := by decide +kernel
theorem dX1_sumOf_70 : decode cX1_sumOf 70 = .ok (.iconst 1, 1) := by decide +kernel
theorem dX1_sumOf_71 : decode cX1_sumOf 71 = .ok (.iadd, 1) := by decide +kernel
theorem dX1_sumOf_72 : decode cX1_sumOf 72 = .ok (.aload_n 0, 1) := by decide +kernel
theorem dX1_sumOf_73 : decode cX1_sumOf 73 = .ok (.getfield 15, 3) := by decide +kernel
theorem dX1_sumOf_76 : decode cX1_sumOf 76 = .ok (.getfield 33, 3) := by decide +kernel
theorem dX1_sumOf_79 : decode cX1_sumOf 79 = .ok (.if_icmp .eq 24, 3) := by decide +kernel
theorem dX1_sumOf_82 : decode cX1_sumOf 82 = .ok (.aload_n 0, 1) := by decide +kernel
theorem dX1_sumOf_83 : decode cX1_sumOf 83 = .ok (.getfield 15, 3) := by decide +kernel
theorem dX1_sumOf_86 : decode cX1_sumOf 86 = .ok (.getfield 34, 3) := by decide +kernel
theorem dX1_sumOf_89 : decode cX1_sumOf 89 = .ok (.iload 5, 2) := by decide +kernel
theorem dX1_sumOf_91 : decode cX1_sumOf 91 = .ok (.iconst 1, 1) := by decide +kernel
theorem dX1_sumOf_92 : decode cX1_sumOf 92 = .ok (.iadd, 1) := by decide +kernel
theorem dX1_sumOf_93 : decode cX1_sumOf 93 = .ok (.iaload, 1) := by decide +kernel
theorem dX1_sumOf_94 : decode cX1_sumOf 94 = .ok (.iconst 4, 1) := by decide +kernel
theorem dX1_sumOf_95 : decode cX1_sumOf 95 = .ok (.ishr, 1) := by decide +kernel
theorem dX1_sumOf_96 : decode cX1_sumOf 96 = .ok (.iload 6, 2) := by decide +kernel
theorem dX1_sumOf_98 : decode cX1_sumOf 98 = .ok (.iconst 4, 1) := by decide +kernel
theorem dX1_sumOf_99 : decode cX1_sumOf 99 = .ok (.ishr, 1) := by decide +kernel
theorem dX1_sumOf_100 : decode cX1_sumOf 100 = .ok (.if_icmp .eq 25, 3) := by decide +kernel
theorem dX1_sumOf_103 : decode cX1_sumOf 103 = .ok (.aload_n 0, 1) := by decide +kernel
theorem dX1_sumOf_104 : decode cX1_sumOf 104 = .ok (.invokevirtual 52, 3) := by decide +kernel
theorem dX1_sumOf_107 : decode cX1_sumOf 107 = .ok (.iload 4, 2) := by decide +kernel
theorem dX1_sumOf_109 : decode cX1_sumOf 109 = .ok (.aload_n 0, 1) := by decide +kernel
theorem dX1_sumOf_110 : decode cX1_sumOf 110 = .ok (.aload_n 1, 1) := by decide +kernel
theorem dX1_sumOf_111 : decode cX1_sumOf 111 = .ok (.iload 6, 2) := by decide +kernel
theorem dX1_sumOf_113 : decode cX1_sumOf 113 = .ok (.iload_n 3, 1) := by decide +kernel
theorem dX1_sumOf_114 : decode cX1_sumOf 114 = .ok (.invokevirtual 55, 3) := by decide +kernel
theorem dX1_sumOf_117 : decode cX1_sumOf 117 = .ok (.iadd, 1) := by decide +kernel
theorem dX1_sumOf_118 : decode cX1_sumOf 118 = .ok (.istore 4, 2) := by decide +kernel
theorem dX1_sumOf_120 : decode cX1_sumOf 120 = .ok (.aload_n 0, 1) := by decide +kernel
theorem dX1_sumOf_121 : decode cX1_sumOf 121 = .ok (.iconst 0, 1) := by decide +kernel
theorem dX1_sumOf_122 : decode cX1_sumOf 122 = .ok (.putfield 29, 3) := by decide +kernel
theorem dX1_sumOf_125 : decode cX1_sumOf 125 = .ok (.iinc 5 1, 3) := by decide +kernel
theorem dX1_sumOf_128 : decode cX1_sumOf 128 = .ok (.goto (-103), 3) := by decide +kernel
theorem dX1_sumOf_131 : decode cX1_sumOf 131 = .ok (.iload 4, 2) := by decide +kernel
theorem dX1_sumOf_133 : decode cX1_sumOf 133 = .ok (.aload_n 1, 1) := by decide +kernel
theorem dX1_sumOf_134 : decode cX1_sumOf 134 = .ok (.getfield 59, 3) := by decide +kernel
theorem dX1_sumOf_137 : decode cX1_sumOf 137 = .ok (.iconst 4, 1) := by decide +kernel
theorem dX1_sumOf_138 : decode cX1_sumOf 138 = .ok (.iaload, 1) := by decide +kernel
theorem dX1_sumOf_139 : decode cX1_sumOf 139 = .ok (.imul, 1) := by decide +kernel
theorem dX1_sumOf_140 : decode cX1_sumOf 140 = .ok (.ireturn, 1) := by decide +kernel
theorem dX1_addDrive_0 : decode cX1_addDrive 0 = .ok (.aload_n 0, 1) := by decide +kernel
theorem dX1_addDrive_1 : decode cX1_addDrive 1 = .ok (.iload_n 2, 1) := by decide +kernel
theorem dX1_addDrive_2 : decode cX1_addDrive 2 = .ok (.i2b, 1) := by decide +kernel
theorem dX1_addDrive_3 : decode cX1_addDrive 3 = .ok (.aload_n 1, 1) := by decide +kernel
theorem dX1_addDrive_4 : decode cX1_addDrive 4 = .ok (.getfield 62, 3) := by decide +kernel
theorem dX1_addDrive_7 : decode cX1_addDrive 7 = .ok (.invokevirtual 67, 3) := by decide +kernel
theorem dX1_addDrive_10 : decode cX1_addDrive 10 = .ok (.aload_n 0, 1) := by decide +kernel
theorem dX1_addDrive_11 : decode cX1_addDrive 11 = .ok (.iload_n 2, 1) := by decide +kernel
theorem dX1_addDrive_12 : decode cX1_addDrive 12 = .ok (.bipush 16, 2) := by decide +kernel
theorem dX1_addDrive_14 : decode cX1_addDrive 14 = .ok (.iadd, 1) := by decide +kernel
theorem dX1_addDrive_15 : decode cX1_addDrive 15 = .ok (.i2b, 1) := by decide +kernel
theorem dX1_addDrive_16 : decode cX1_addDrive 16 = .ok (.aload_n 1, 1) := by decide +kernel
theorem dX1_addDrive_17 : decode cX1_addDrive 17 = .ok (.getfield 71, 3) := by decide +kernel
theorem dX1_addDrive_20 : decode cX1_addDrive 20 = .ok (.invokevirtual 67, 3) := by decide +kernel
theorem dX1_addDrive_23 : decode cX1_addDrive 23 = .ok (.return_, 1) := by decide +kernel
theorem dX1_add_0 : decode cX1_add 0 = .ok (.iconst 0, 1) := by decide +kernel
theorem dX1_add_1 : decode cX1_add 1 = .ok (.istore_n 3, 1) := by decide +kernel
theorem dX1_add_2 : decode cX1_add 2 = .ok (.iload_n 3, 1) := by decide +kernel
theorem dX1_add_3 : decode cX1_add 3 = .ok (.iload_n 2, 1) := by decide +kernel
theorem dX1_add_4 : decode cX1_add 4 = .ok (.if_icmp .ge 41, 3) := by decide +kernel
theorem dX1_add_7 : decode cX1_add 7 = .ok (.aload_n 0, 1) := by decide +kernel
theorem dX1_add_8 : decode cX1_add 8 = .ok (.getfield 29, 3) := by decide +kernel
theorem dX1_add_11 : decode cX1_add 11 = .ok (.aload_n 0, 1) := by decide +kernel
theorem dX1_add_12 : decode cX1_add 12 = .ok (.getfield 9, 3) := by decide +kernel
theorem dX1_add_15 : decode cX1_add 15 = .ok (.arraylength, 1) := by decide +kernel
theorem dX1_add_16 : decode cX1_add 16 = .ok (.if_icmp .ge 29, 3) := by decide +kernel
theorem dX1_add_19 : decode cX1_add 19 = .ok (.aload_n 0, 1) := by decide +kernel
theorem dX1_add_20 : decode cX1_add 20 = .ok (.getfield 9, 3) := by decide +kernel
theorem dX1_add_23 : decode cX1_add 23 = .ok (.aload_n 0, 1) := by decide +kernel
theorem dX1_add_24 : decode cX1_add 24 = .ok (.getfield 29, 3) := by decide +kernel
theorem dX1_add_27 : decode cX1_add 27 = .ok (.iload_n 1, 1) := by decide +kernel
theorem dX1_add_28 : decode cX1_add 28 = .ok (.bastore, 1) := by decide +kernel
theorem dX1_add_29 : decode cX1_add 29 = .ok (.aload_n 0, 1) := by decide +kernel
theorem dX1_add_30 : decode cX1_add 30 = .ok (.dup, 1) := by decide +kernel
theorem dX1_add_31 : decode cX1_add 31 = .ok (.getfield 29, 3) := by decide +kernel
theorem dX1_add_34 : decode cX1_add 34 = .ok (.iconst 1, 1) := by decide +kernel
theorem dX1_add_35 : decode cX1_add 35 = .ok (.iadd, 1) := by decide +kernel
theorem dX1_add_36 : decode cX1_add 36 = .ok (.putfield 29, 3) := by decide +kernel
theorem dX1_add_39 : decode cX1_add 39 = .ok (.iinc 3 1, 3) := by decide +kernel
theorem dX1_add_42 : decode cX1_add 42 = .ok (.goto (-40), 3) := by decide +kernel
theorem dX1_add_45 : decode cX1_add 45 = .ok (.return_, 1) := by decide +kernel
theorem dX1_draw_0 : decode cX1_draw 0 = .ok (.aload_n 0, 1) := by decide +kernel
theorem dX1_draw_1 : decode cX1_draw 1 = .ok (.ldc2_w 74, 3) := by decide +kernel
theorem dX1_draw_4 : decode cX1_draw 4 = .ok (.aload_n 0, 1) := by decide +kernel
theorem dX1_draw_5 : decode cX1_draw 5 = .ok (.getfield 19, 3) := by decide +kernel
theorem dX1_draw_8 : decode cX1_draw 8 = .ok (.lmul, 1) := by decide +kernel
theorem dX1_draw_9 : decode cX1_draw 9 = .ok (.ldc2_w 76, 3) := by decide +kernel
theorem dX1_draw_12 : decode cX1_draw 12 = .ok (.ladd, 1) := by decide +kernel
theorem dX1_draw_13 : decode cX1_draw 13 = .ok (.ldc2_w 78, 3) := by decide +kernel
theorem dX1_draw_16 : decode cX1_draw 16 = .ok (.lrem, 1) := by decide +kernel
theorem dX1_draw_17 : decode cX1_draw 17 = .ok (.putfield 19, 3) := by decide +kernel
theorem dX1_draw_20 : decode cX1_draw 20 = .ok (.iload_n 1, 1) := by decide +kernel
theorem dX1_draw_21 : decode cX1_draw 21 = .ok (.ifCond .le 18, 3) := by decide +kernel
theorem dX1_draw_24 : decode cX1_draw 24 = .ok (.aload_n 0, 1) := by decide +kernel
theorem dX1_draw_25 : decode cX1_draw 25 = .ok (.getfield 19, 3) := by decide +kernel
theorem dX1_draw_28 : decode cX1_draw 28 = .ok (.ldc2_w 80, 3) := by decide +kernel
theorem dX1_draw_31 : decode cX1_draw 31 = .ok (.ldiv, 1) := by decide +kernel
theorem dX1_draw_32 : decode cX1_draw 32 = .ok (.iload_n 1, 1) := by decide +kernel
theorem dX1_draw_33 : decode cX1_draw 33 = .ok (.i2l, 1) := by decide +kernel
theorem dX1_draw_34 : decode cX1_draw 34 = .ok (.lrem, 1) := by decide +kernel
theorem dX1_draw_35 : decode cX1_draw 35 = .ok (.l2i, 1) := by decide +kernel
theorem dX1_draw_36 : decode cX1_draw 36 = .ok (.goto 4, 3) := by decide +kernel
theorem dX1_draw_39 : decode cX1_draw 39 = .ok (.iconst 0, 1) := by decide +kernel
theorem dX1_draw_40 : decode cX1_draw 40 = .ok (.ireturn, 1) := by decide +kernel
theorem dX1_shuffle_0 : decode cX1_shuffle 0 = .ok (.aload_n 0, 1) := by decide +kernel
theorem dX1_shuffle_1 : decode cX1_shuffle 1 = .ok (.getfield 29, 3) := by decide +kernel
theorem dX1_shuffle_4 : decode cX1_shuffle 4 = .ok (.iconst 1, 1) := by decide +kernel
theorem dX1_shuffle_5 : decode cX1_shuffle 5 = .ok (.isub, 1) := by decide +kernel
theorem dX1_shuffle_6 : decode cX1_shuffle 6 = .ok (.istore_n 1, 1) := by decide +kernel
theorem dX1_shuffle_7 : decode cX1_shuffle 7 = .ok (.iload_n 1, 1) := by decide +kernel
theorem dX1_shuffle_8 : decode cX1_shuffle 8 = .ok (.iconst 1, 1) := by decide +kernel
theorem dX1_shuffle_9 : decode cX1_shuffle 9 = .ok (.if_icmp .lt 43, 3) := by decide +kernel
theorem dX1_shuffle_12 : decode cX1_shuffle 12 = .ok (.aload_n 0, 1) := by decide +kernel
theorem dX1_shuffle_13 : decode cX1_shuffle 13 = .ok (.iload_n 1, 1) := by decide +kernel
theorem dX1_shuffle_14 : decode cX1_shuffle 14 = .ok (.iconst 1, 1) := by decide +kernel
theorem dX1_shuffle_15 : decode cX1_shuffle 15 = .ok (.iadd, 1) := by decide +kernel
theorem dX1_shuffle_16 : decode cX1_shuffle 16 = .ok (.invokevirtual 82, 3) := by decide +kernel
theorem dX1_shuffle_19 : decode cX1_shuffle 19 = .ok (.istore_n 2, 1) := by decide +kernel
theorem dX1_shuffle_20 : decode cX1_shuffle 20 = .ok (.aload_n 0, 1) := by decide +kernel
theorem dX1_shuffle_21 : decode cX1_shuffle 21 = .ok (.getfield 9, 3) := by decide +kernel
theorem dX1_shuffle_24 : decode cX1_shuffle 24 = .ok (.iload_n 1, 1) := by decide +kernel
theorem dX1_shuffle_25 : decode cX1_shuffle 25 = .ok (.baload, 1) := by decide +kernel
theorem dX1_shuffle_26 : decode cX1_shuffle 26 = .ok (.istore_n 3, 1) := by decide +kernel
theorem dX1_shuffle_27 : decode cX1_shuffle 27 = .ok (.aload_n 0, 1) := by decide +kernel
theorem dX1_shuffle_28 : decode cX1_shuffle 28 = .ok (.getfield 9, 3) := by decide +kernel
theorem dX1_shuffle_31 : decode cX1_shuffle 31 = .ok (.iload_n 1, 1) := by decide +kernel
theorem dX1_shuffle_32 : decode cX1_shuffle 32 = .ok (.aload_n 0, 1) := by decide +kernel
theorem dX1_shuffle_33 : decode cX1_shuffle 33 = .ok (.getfield 9, 3) := by decide +kernel
theorem dX1_shuffle_36 : decode cX1_shuffle 36 = .ok (.iload_n 2, 1) := by decide +kernel
theorem dX1_shuffle_37 : decode cX1_shuffle 37 = .ok (.baload, 1) := by decide +kernel
theorem dX1_shuffle_38 : decode cX1_shuffle 38 = .ok (.bastore, 1) := by decide +kernel
theorem dX1_shuffle_39 : decode cX1_shuffle 39 = .ok (.aload_n 0, 1) := by decide +kernel
theorem dX1_shuffle_40 : decode cX1_shuffle 40 = .ok (.getfield 9, 3) := by decide +kernel
theorem dX1_shuffle_43 : decode cX1_shuffle 43 = .ok (.iload_n 2, 1) := by decide +kernel
theorem dX1_shuffle_44 : decode cX1_shuffle 44 = .ok (.iload_n 3, 1) := by decide +kernel
theorem dX1_shuffle_45 : decode cX1_shuffle 45 = .ok (.bastore, 1) := by decide +kernel
theorem dX1_shuffle_46 : decode cX1_shuffle 46 = .ok (.iinc 1 (-1), 3) := by decide +kernel
theorem dX1_shuffle_49 : decode cX1_shuffle 49 = .ok (.goto (-42), 3) := by decide +kernel
theorem dX1_shuffle_52 : decode cX1_shuffle 52 = .ok (.return_, 1) := by decide +kernel
theorem dX1_passAll_0 : decode cX1_passAll 0 = .ok (.iload_n 2, 1) := by decide +kernel
theorem dX1_passAll_1 : decode cX1_passAll 1 = .ok (.invokestatic 85, 3) := by decide +kernel
theorem dX1_passAll_4 : decode cX1_passAll 4 = .ok (.bipush 24, 2) := by decide +kernel
theorem dX1_passAll_6 : decode cX1_passAll 6 = .ok (.idiv, 1) := by decide +kernel
theorem dX1_passAll_7 : decode cX1_passAll 7 = .ok (.istore 4, 2) := by decide +kernel
theorem dX1_passAll_9 : decode cX1_passAll 9 = .ok (.aload_n 0, 1) := by decide +kernel
theorem dX1_passAll_10 : decode cX1_passAll 10 = .ok (.getfield 15, 3) := by decide +kernel
theorem dX1_passAll_13 : decode cX1_passAll 13 = .ok (.aload_n 1, 1) := by decide +kernel
theorem dX1_passAll_14 : decode cX1_passAll 14 = .ok (.iload 4, 2) := by decide +kernel
theorem dX1_passAll_16 : decode cX1_passAll 16 = .ok (.invokevirtual 88, 3) := by decide +kernel
theorem dX1_passAll_19 : decode cX1_passAll 19 = .ok (.iconst 0, 1) := by decide +kernel
theorem dX1_passAll_20 : decode cX1_passAll 20 = .ok (.istore 5, 2) := by decide +kernel
theorem dX1_passAll_22 : decode cX1_passAll 22 = .ok (.iconst 0, 1) := by decide +kernel
theorem dX1_passAll_23 : decode cX1_passAll 23 = .ok (.istore 6, 2) := by decide +kernel
theorem dX1_passAll_25 : decode cX1_passAll 25 = .ok (.iload 6, 2) := by decide +kernel
theorem dX1_passAll_27 : decode cX1_passAll 27 = .ok (.aload_n 0, 1) := by decide +kernel
theorem dX1_passAll_28 : decode cX1_passAll 28 = .ok (.getfield 29, 3) := by decide +kernel
theorem dX1_passAll_31 : decode cX1_passAll 31 = .ok (.if_icmp .ge 84, 3) := by decide +kernel
theorem dX1_passAll_34 : decode cX1_passAll 34 = .ok (.aload_n 0, 1) := by decide +kernel
theorem dX1_passAll_35 : decode cX1_passAll 35 = .ok (.getfield 9, 3) := by decide +kernel
theorem dX1_passAll_38 : decode cX1_passAll 38 = .ok (.iload 6, 2) := by decide +kernel
theorem dX1_passAll_40 : decode cX1_passAll 40 = .ok (.baload, 1) := by decide +kernel
theorem dX1_passAll_41 : decode cX1_passAll 41 = .ok (.bipush 16, 2) := by decide +kernel
theorem dX1_passAll_43 : decode cX1_passAll 43 = .ok (.if_icmp .lt 12, 3) := by decide +kernel
theorem dX1_passAll_46 : decode cX1_passAll 46 = .ok (.aload_n 1, 1) := by decide +kernel
theorem dX1_passAll_47 : decode cX1_passAll 47 = .ok (.iload 4, 2) := by decide +kernel
theorem dX1_passAll_49 : decode cX1_passAll 49 = .ok (.invokevirtual 92, 3) := by decide +kernel
theorem dX1_passAll_52 : decode cX1_passAll 52 = .ok (.ifCond .eq 7, 3) := by decide +kernel
theorem dX1_passAll_55 : decode cX1_passAll 55 = .ok (.iconst 1, 1) := by decide +kernel
theorem dX1_passAll_56 : decode cX1_passAll 56 = .ok (.goto 4, 3) := by decide +kernel
theorem dX1_passAll_59 : decode cX1_passAll 59 = .ok (.iconst 0, 1) := by decide +kernel
theorem dX1_passAll_60 : decode cX1_passAll 60 = .ok (.istore 7, 2) := by decide +kernel
theorem dX1_passAll_62 : decode cX1_passAll 62 = .ok (.iload 7, 2) := by decide +kernel
theorem dX1_passAll_64 : decode cX1_passAll 64 = .ok (.ifCond .eq 45, 3) := by decide +kernel
theorem dX1_passAll_67 : decode cX1_passAll 67 = .ok (.aload_n 0, 1) := by decide +kernel
theorem dX1_passAll_68 : decode cX1_passAll 68 = .ok (.getfield 15, 3) := by decide +kernel
theorem dX1_passAll_71 : decode cX1_passAll 71 = .ok (.aload_n 1, 1) := by decide +kernel
theorem dX1_passAll_72 : decode cX1_passAll 72 = .ok (.iload_n 2, 1) := by decide +kernel
theorem dX1_passAll_73 : decode cX1_passAll 73 = .ok (.invokestatic 96, 3) := by decide +kernel
theorem dX1_passAll_76 : decode cX1_passAll 76 = .ok (.iload 4, 2) := by decide +kernel
theorem dX1_passAll_78 : decode cX1_passAll 78 = .ok (.invokevirtual 99, 3) := by decide +kernel
theorem dX1_passAll_81 : decode cX1_passAll 81 = .ok (.ifCond .eq 28, 3) := by decide +kernel
theorem dX1_passAll_84 : decode cX1_passAll 84 = .ok (.aload_n 1, 1) := by decide +kernel
theorem dX1_passAll_85 : decode cX1_passAll 85 = .ok (.getfield 38, 3) := by decide +kernel
theorem dX1_passAll_88 : decode cX1_passAll 88 = .ok (.aload_n 0, 1) := by decide +kernel
theorem dX1_passAll_89 : decode cX1_passAll 89 = .ok (.getfield 9, 3) := by decide +kernel
theorem dX1_passAll_92 : decode cX1_passAll 92 = .ok (.iload 6, 2) := by decide +kernel
theorem dX1_passAll_94 : decode cX1_passAll 94 = .ok (.baload, 1) := by decide +kernel
theorem dX1_passAll_95 : decode cX1_passAll 95 = .ok (.bipush 16, 2) := by decide +kernel
theorem dX1_passAll_97 : decode cX1_passAll 97 = .ok (.irem, 1) := by decide +kernel
theorem dX1_passAll_98 : decode cX1_passAll 98 = .ok (.aaload, 1) := by decide +kernel
theorem dX1_passAll_99 : decode cX1_passAll 99 = .ok (.getfield 103, 3) := by decide +kernel
theorem dX1_passAll_102 : decode cX1_passAll 102 = .ok (.iload_n 3, 1) := by decide +kernel
theorem dX1_passAll_103 : decode cX1_passAll 103 = .ok (.if_icmp .ne 6, 3) := by decide +kernel
theorem dX1_passAll_106 : decode cX1_passAll 106 = .ok (.iinc 5 1, 3) := by decide +kernel
theorem dX1_passAll_109 : decode cX1_passAll 109 = .ok (.iinc 6 1, 3) := by decide +kernel
theorem dX1_passAll_112 : decode cX1_passAll 112 = .ok (.goto (-87), 3) := by decide +kernel
theorem dX1_passAll_115 : decode cX1_passAll 115 = .ok (.iload 5, 2) := by decide +kernel
theorem dX1_passAll_117 : decode cX1_passAll 117 = .ok (.ireturn, 1) := by decide +kernel
theorem dX2_init_0 : decode cX2_init 0 = .ok (.aload_n 0, 1) := by decide +kernel
theorem dX2_init_1 : decode cX2_init 1 = .ok (.invokespecial 3, 3) := by decide +kernel
theorem dX2_init_4 : decode cX2_init 4 = .ok (.aload_n 0, 1) := by decide +kernel
theorem dX2_init_5 : decode cX2_init 5 = .ok (.iconst 5, 1) := by decide +kernel
theorem dX2_init_6 : decode cX2_init 6 = .ok (.newarray .int, 2) := by decide +kernel
theorem dX2_init_8 : decode cX2_init 8 = .ok (.putfield 9, 3) := by decide +kernel
theorem dX2_init_11 : decode cX2_init 11 = .ok (.aload_n 0, 1) := by decide +kernel
theorem dX2_init_12 : decode cX2_init 12 = .ok (.iconst 4, 1) := by decide +kernel
theorem dX2_init_13 : decode cX2_init 13 = .ok (.newarray .int, 2) := by decide +kernel
theorem dX2_init_15 : decode cX2_init 15 = .ok (.putfield 15, 3) := by decide +kernel
theorem dX2_init_18 : decode cX2_init 18 = .ok (.aload_n 0, 1) := by decide +kernel
theorem dX2_init_19 : decode cX2_init 19 = .ok (.bipush 36, 2) := by decide +kernel
theorem dX2_init_21 : decode cX2_init 21 = .ok (.newarray .int, 2) := by decide +kernel
theorem dX2_init_23 : decode cX2_init 23 = .ok (.putfield 18, 3) := by decide +kernel
theorem dX2_init_26 : decode cX2_init 26 = .ok (.aload_n 0, 1) := by decide +kernel
theorem dX2_init_27 : decode cX2_init 27 = .ok (.bipush 13, 2) := by decide +kernel
theorem dX2_init_29 : decode cX2_init 29 = .ok (.anewarray 21, 3) := by decide +kernel
theorem dX2_init_32 : decode cX2_init 32 = .ok (.putfield 23, 3) := by decide +kernel
theorem dX2_init_35 : decode cX2_init 35 = .ok (.iconst 0, 1) := by decide +kernel
theorem dX2_init_36 : decode cX2_init 36 = .ok (.istore_n 1, 1) := by decide +kernel
theorem dX2_init_37 : decode cX2_init 37 = .ok (.iload_n 1, 1) := by decide +kernel
theorem dX2_init_38 : decode cX2_init 38 = .ok (.bipush 12, 2) := by decide +kernel
theorem dX2_init_40 : decode cX2_init 40 = .ok (.if_icmp .gt 22, 3) := by decide +kernel
theorem dX2_init_43 : decode cX2_init 43 = .ok (.aload_n 0, 1) := by decide +kernel
theorem dX2_init_44 : decode cX2_init 44 = .ok (.getfield 23, 3) := by decide +kernel
theorem dX2_init_47 : decode cX2_init 47 = .ok (.iload_n 1, 1) := by decide +kernel
theorem dX2_init_48 : decode cX2_init 48 = .ok (.new 21, 3) := by decide +kernel
theorem dX2_init_51 : decode cX2_init 51 = .ok (.dup, 1) := by decide +kernel
theorem dX2_init_52 : decode cX2_init 52 = .ok (.invokespecial 27, 3) := by decide +kernel
theorem dX2_init_55 : decode cX2_init 55 = .ok (.aastore, 1) := by decide +kernel
theorem dX2_init_56 : decode cX2_init 56 = .ok (.iinc 1 1, 3) := by decide +kernel
theorem dX2_init_59 : decode cX2_init 59 = .ok (.goto (-22), 3) := by decide +kernel
theorem dX2_init_62 : decode cX2_init 62 = .ok (.return_, 1) := by decide +kernel
theorem dX2_forget_0 : decode cX2_forget 0 = .ok (.aload_n 0, 1) := by decide +kernel
theorem dX2_forget_1 : decode cX2_forget 1 = .ok (.iconst 0, 1) := by decide +kernel
theorem dX2_forget_2 : decode cX2_forget 2 = .ok (.putfield 28, 3) := by decide +kernel
theorem dX2_forget_5 : decode cX2_forget 5 = .ok (.aload_n 0, 1) := by decide +kernel
theorem dX2_forget_6 : decode cX2_forget 6 = .ok (.iconst 0, 1) := by decide +kernel
theorem dX2_forget_7 : decode cX2_forget 7 = .ok (.putfield 32, 3) := by decide +kernel
theorem dX2_forget_10 : decode cX2_forget 10 = .ok (.aload_n 0, 1) := by decide +kernel
theorem dX2_forget_11 : decode cX2_forget 11 = .ok (.iconst 0, 1) := by decide +kernel
theorem dX2_forget_12 : decode cX2_forget 12 = .ok (.putfield 35, 3) := by decide +kernel
theorem dX2_forget_15 : decode cX2_forget 15 = .ok (.aload_n 0, 1) := by decide +kernel
theorem dX2_forget_16 : decode cX2_forget 16 = .ok (.iconst 0, 1) := by decide +kernel
theorem dX2_forget_17 : decode cX2_forget 17 = .ok (.putfield 38, 3) := by decide +kernel
theorem dX2_forget_20 : decode cX2_forget 20 = .ok (.aload_n 0, 1) := by decide +kernel
theorem dX2_forget_21 : decode cX2_forget 21 = .ok (.iconst 0, 1) := by decide +kernel
theorem dX2_forget_22 : decode cX2_forget 22 = .ok (.putfield 41, 3) := by decide +kernel
theorem dX2_forget_25 : decode cX2_forget 25 = .ok (.aload_n 0, 1) := by decide +kernel
theorem dX2_forget_26 : decode cX2_forget 26 = .ok (.iconst 0, 1) := by decide +kernel
theorem dX2_forget_27 : decode cX2_forget 27 = .ok (.putfield 44, 3) := by decide +kernel
theorem dX2_forget_30 : decode cX2_forget 30 = .ok (.aload_n 0, 1) := by decide +kernel
theorem dX2_forget_31 : decode cX2_forget 31 = .ok (.iconst 0, 1) := by decide +kernel
theorem dX2_forget_32 : decode cX2_forget 32 = .ok (.putfield 47, 3) := by decide +kernel
theorem dX2_forget_35 : decode cX2_forget 35 = .ok (.aload_n 0, 1) := by decide +kernel
theorem dX2_forget_36 : decode cX2_forget 36 = .ok (.getfield 9, 3) := by decide +kernel
theorem dX2_forget_39 : decode cX2_forget 39 = .ok (.iconst 0, 1) := by decide +kernel
theorem dX2_forget_40 : decode cX2_forget 40 = .ok (.invokestatic 50, 3) := by decide +kernel
theorem dX2_forget_43 : decode cX2_forget 43 = .ok (.aload_n 0, 1) := by decide +kernel
theorem dX2_forget_44 : decode cX2_forget 44 = .ok (.getfield 15, 3) := by decide +kernel
theorem dX2_forget_47 : decode cX2_forget 47 = .ok (.iconst 0, 1) := by decide +kernel
theorem dX2_forget_48 : decode cX2_forget 48 = .ok (.invokestatic 50, 3) := by decide +kernel
theorem dX2_forget_51 : decode cX2_forget 51 = .ok (.aload_n 0, 1) := by decide +kernel
theorem dX2_forget_52 : decode cX2_forget 52 = .ok (.getfield 18, 3) := by decide +kernel
theorem dX2_forget_55 : decode cX2_forget 55 = .ok (.iconst 0, 1) := by decide +kernel
theorem dX2_forget_56 : decode cX2_forget 56 = .ok (.invokestatic 50, 3) := by decide +kernel
theorem dX2_forget_59 : decode cX2_forget 59 = .ok (.return_, 1) := by decide +kernel
theorem dX2_copy_0 : decode cX2_copy 0 = .ok (.aload_n 0, 1) := by decide +kernel
theorem dX2_copy_1 : decode cX2_copy 1 = .ok (.aload_n 1, 1) := by decide +kernel
theorem dX2_copy_2 : decode cX2_copy 2 = .ok (.getfield 28, 3) := by decide +kernel
theorem dX2_copy_5 : decode cX2_copy 5 = .ok (.putfield 28, 3) := by decide +kernel
theorem dX2_copy_8 : decode cX2_copy 8 = .ok (.aload_n 0, 1) := by decide +kernel
theorem dX2_copy_9 : decode cX2_copy 9 = .ok (.aload_n 1, 1) := by decide +kernel
theorem dX2_copy_10 : decode cX2_copy 10 = .ok (.getfield 32, 3) := by decide +kernel
theorem dX2_copy_13 : decode cX2_copy 13 = .ok (.putfield 32, 3) := by decide +kernel
theorem dX2_copy_16 : decode cX2_copy 16 = .ok (.aload_n 0, 1) := by decide +kernel
theorem dX2_copy_17 : decode cX2_copy 17 = .ok (.aload_n 1, 1) := by decide +kernel
theorem dX2_copy_18 : decode cX2_copy 18 = .ok (.getfield 35, 3) := by decide +kernel
theorem dX2_copy_21 : decode cX2_copy 21 = .ok (.putfield 35, 3) := by decide +kernel
theorem dX2_copy_24 : decode cX2_copy 24 = .ok (.aload_n 0, 1) := by decide +kernel
theorem dX2_copy_25 : decode cX2_copy 25 = .ok (.aload_n 1, 1) := by decide +kernel
theorem dX2_copy_26 : decode cX2_copy 26 = .ok (.getfield 38, 3) := by decide +kernel
theorem dX2_copy_29 : decode cX2_copy 29 = .ok (.putfield 38, 3) := by decide +kernel
theorem dX2_copy_32 : decode cX2_copy 32 = .ok (.aload_n 0, 1) := by decide +kernel
theorem dX2_copy_33 : decode cX2_copy 33 = .ok (.aload_n 1, 1) := by decide +kernel
theorem dX2_copy_34 : decode cX2_copy 34 = .ok (.getfield 41, 3) := by decide +kernel
theorem dX2_copy_37 : decode cX2_copy 37 = .ok (.putfield 41, 3) := by decide +kernel
theorem dX2_copy_40 : decode cX2_copy 40 = .ok (.aload_n 0, 1) := by decide +kernel
theorem dX2_copy_41 : decode cX2_copy 41 = .ok (.aload_n 1, 1) := by decide +kernel
theorem dX2_copy_42 : decode cX2_copy 42 = .ok (.getfield 44, 3) := by decide +kernel
theorem dX2_copy_45 : decode cX2_copy 45 = .ok (.putfield 44, 3) := by decide +kernel
theorem dX2_copy_48 : decode cX2_copy 48 = .ok (.aload_n 0, 1) := by decide +kernel
theorem dX2_copy_49 : decode cX2_copy 49 = .ok (.aload_n 1, 1) := by decide +kernel
theorem dX2_copy_50 : decode cX2_copy 50 = .ok (.getfield 47, 3) := by decide +kernel
theorem dX2_copy_53 : decode cX2_copy 53 = .ok (.putfield 47, 3) := by decide +kernel
theorem dX2_copy_56 : decode cX2_copy 56 = .ok (.aload_n 1, 1) := by decide +kernel
theorem dX2_copy_57 : decode cX2_copy 57 = .ok (.getfield 9, 3) := by decide +kernel
theorem dX2_copy_60 : decode cX2_copy 60 = .ok (.iconst 0, 1) := by decide +kernel
theorem dX2_copy_61 : decode cX2_copy 61 = .ok (.aload_n 0, 1) := by decide +kernel
theorem dX2_copy_62 : decode cX2_copy 62 = .ok (.getfield 9, 3) := by decide +kernel
theorem dX2_copy_65 : decode cX2_copy 65 = .ok (.iconst 0, 1) := by decide +kernel
theorem dX2_copy_66 : decode cX2_copy 66 = .ok (.iconst 5, 1) := by decide +kernel
theorem dX2_copy_67 : decode cX2_copy 67 = .ok (.invokestatic 56, 3) := by decide +kernel
theorem dX2_copy_70 : decode cX2_copy 70 = .ok (.aload_n 1, 1) := by decide +kernel
theorem dX2_copy_71 : decode cX2_copy 71 = .ok (.getfield 15, 3) := by decide +kernel
theorem dX2_copy_74 : decode cX2_copy 74 = .ok (.iconst 0, 1) := by decide +kernel
theorem dX2_copy_75 : decode cX2_copy 75 = .ok (.aload_n 0, 1) := by decide +kernel
theorem dX2_copy_76 : decode cX2_copy 76 = .ok (.getfield 15, 3) := by decide +kernel
theorem dX2_copy_79 : decode cX2_copy 79 = .ok (.iconst 0, 1) := by decide +kernel
theorem dX2_copy_80 : decode cX2_copy 80 = .ok (.iconst 4, 1) := by decide +kernel
theorem dX2_copy_81 : decode cX2_copy 81 = .ok (.invokestatic 56, 3) := by decide +kernel
theorem dX2_copy_84 : decode cX2_copy 84 = .ok (.aload_n 1, 1) := by decide +kernel
theorem dX2_copy_85 : decode cX2_copy 85 = .ok (.getfield 18, 3) := by decide +kernel
theorem dX2_copy_88 : decode cX2_copy 88 = .ok (.iconst 0, 1) := by decide +kernel
theorem dX2_copy_89 : decode cX2_copy 89 = .ok (.aload_n 0, 1) := by decide +kernel
theorem dX2_copy_90 : decode cX2_copy 90 = .ok (.getfield 18, 3) := by decide +kernel
theorem dX2_copy_93 : decode cX2_copy 93 = .ok (.iconst 0, 1) := by decide +kernel
theorem dX2_copy_94 : decode cX2_copy 94 = .ok (.bipush 36, 2) := by decide +kernel
theorem dX2_copy_96 : decode cX2_copy 96 = .ok (.invokestatic 56, 3) := by decide +kernel
theorem dX2_copy_99 : decode cX2_copy 99 = .ok (.iconst 0, 1) := by decide +kernel
theorem dX2_copy_100 : decode cX2_copy 100 = .ok (.istore_n 2, 1) := by decide +kernel
theorem dX2_copy_101 : decode cX2_copy 101 = .ok (.iload_n 2, 1) := by decide +kernel
theorem dX2_copy_102 : decode cX2_copy 102 = .ok (.aload_n 1, 1) := by decide +kernel
theorem dX2_copy_103 : decode cX2_copy 103 = .ok (.getfield 44, 3) := by decide +kernel
theorem dX2_copy_106 : decode cX2_copy 106 = .ok (.if_icmp .ge 30, 3) := by decide +kernel
theorem dX2_copy_109 : decode cX2_copy 109 = .ok (.iload_n 2, 1) := by decide +kernel
theorem dX2_copy_110 : decode cX2_copy 110 = .ok (.bipush 12, 2) := by decide +kernel
theorem dX2_copy_112 : decode cX2_copy 112 = .ok (.if_icmp .gt 24, 3) := by decide +kernel
theorem dX2_copy_115 : decode cX2_copy 115 = .ok (.aload_n 0, 1) := by decide +kernel
theorem dX2_copy_116 : decode cX2_copy 116 = .ok (.getfield 23, 3) := by decide +kernel
theorem dX2_copy_119 : decode cX2_copy 119 = .ok (.iload_n 2, 1) := by decide +kernel
theorem dX2_copy_120 : decode cX2_copy 120 = .ok (.aaload, 1) := by decide +kernel
theorem dX2_copy_121 : decode cX2_copy 121 = .ok (.aload_n 1, 1) := by decide +kernel
theorem dX2_copy_122 : decode cX2_copy 122 = .ok (.getfield 23, 3) := by decide +kernel
theorem dX2_copy_125 : decode cX2_copy 125 = .ok (.iload_n 2, 1) := by decide +kernel
theorem dX2_copy_126 : decode cX2_copy 126 = .ok (.aaload, 1) := by decide +kernel
theorem dX2_copy_127 : decode cX2_copy 127 = .ok (.invokevirtual 62, 3) := by decide +kernel
theorem dX2_copy_130 : decode cX2_copy 130 = .ok (.iinc 2 1, 3) := by decide +kernel
theorem dX2_copy_133 : decode cX2_copy 133 = .ok (.goto (-32), 3) := by decide +kernel
theorem dX2_copy_136 : decode cX2_copy 136 = .ok (.return_, 1) := by decide +kernel
theorem dX2_isTold_0 : decode cX2_isTold 0 = .ok (.aload_n 0, 1) := by decide +kernel
theorem dX2_isTold_1 : decode cX2_isTold 1 = .ok (.getfield 28, 3) := by decide +kernel
theorem dX2_isTold_4 : decode cX2_isTold 4 = .ok (.ifCond .le 7, 3) := by decide +kernel
theorem dX2_isTold_7 : decode cX2_isTold 7 = .ok (.iconst 1, 1) := by decide +kernel
theorem dX2_isTold_8 : decode cX2_isTold 8 = .ok (.goto 4, 3) := by decide +kernel
theorem dX2_isTold_11 : decode cX2_isTold 11 = .ok (.iconst 0, 1) := by decide +kernel
theorem dX2_isTold_12 : decode cX2_isTold 12 = .ok (.ireturn, 1) := by decide +kernel
theorem dX2_hasGap_0 : decode cX2_hasGap 0 = .ok (.iload_n 1, 1) := by decide +kernel
theorem dX2_hasGap_1 : decode cX2_hasGap 1 = .ok (.ifCond .lt 15, 3) := by decide +kernel
theorem dX2_hasGap_4 : decode cX2_hasGap 4 = .ok (.iload_n 1, 1) := by decide +kernel
theorem dX2_hasGap_5 : decode cX2_hasGap 5 = .ok (.aload_n 0, 1) := by decide +kernel
theorem dX2_hasGap_6 : decode cX2_hasGap 6 = .ok (.getfield 32, 3) := by decide +kernel
theorem dX2_hasGap_9 : decode cX2_hasGap 9 = .ok (.if_icmp .ge 7, 3) := by decide +kernel
theorem dX2_hasGap_12 : decode cX2_hasGap 12 = .ok (.iconst 1, 1) := by decide +kernel
theorem dX2_hasGap_13 : decode cX2_hasGap 13 = .ok (.goto 4, 3) := by decide +kernel
theorem dX2_hasGap_16 : decode cX2_hasGap 16 = .ok (.iconst 0, 1) := by decide +kernel
theorem dX2_hasGap_17 : decode cX2_hasGap 17 = .ok (.ireturn, 1) := by decide +kernel
theorem dX2_hasDay_0 : decode cX2_hasDay 0 = .ok (.iload_n 1, 1) := by decide +kernel
theorem dX2_hasDay_1 : decode cX2_hasDay 1 = .ok (.ifCond .lt 15, 3) := by decide +kernel
theorem dX2_hasDay_4 : decode cX2_hasDay 4 = .ok (.iload_n 1, 1) := by decide +kernel
theorem dX2_hasDay_5 : decode cX2_hasDay 5 = .ok (.aload_n 0, 1) := by decide +kernel
theorem dX2_hasDay_6 : decode cX2_hasDay 6 = .ok (.getfield 35, 3) := by decide +kernel
theorem dX2_hasDay_9 : decode cX2_hasDay 9 = .ok (.if_icmp .ge 7, 3) := by decide +kernel
theorem dX2_hasDay_12 : decode cX2_hasDay 12 = .ok (.iconst 1, 1) := by decide +kernel
theorem dX2_hasDay_13 : decode cX2_hasDay 13 = .ok (.goto 4, 3) := by decide +kernel
theorem dX2_hasDay_16 : decode cX2_hasDay 16 = .ok (.iconst 0, 1) := by decide +kernel
theorem dX2_hasDay_17 : decode cX2_hasDay 17 = .ok (.ireturn, 1) := by decide +kernel
theorem dX2_hasOwner_0 : decode cX2_hasOwner 0 = .ok (.iload_n 1, 1) := by decide +kernel
theorem dX2_hasOwner_1 : decode cX2_hasOwner 1 = .ok (.ifCond .lt 15, 3) := by decide +kernel
theorem dX2_hasOwner_4 : decode cX2_hasOwner 4 = .ok (.iload_n 1, 1) := by decide +kernel
theorem dX2_hasOwner_5 : decode cX2_hasOwner 5 = .ok (.aload_n 0, 1) := by decide +kernel
theorem dX2_hasOwner_6 : decode cX2_hasOwner 6 = .ok (.getfield 38, 3) := by decide +kernel
theorem dX2_hasOwner_9 : decode cX2_hasOwner 9 = .ok (.if_icmp .ge 7, 3) := by decide +kernel
theorem dX2_hasOwner_12 : decode cX2_hasOwner 12 = .ok (.iconst 1, 1) := by decide +kernel
theorem dX2_hasOwner_13 : decode cX2_hasOwner 13 = .ok (.goto 4, 3) := by decide +kernel
theorem dX2_hasOwner_16 : decode cX2_hasOwner 16 = .ok (.iconst 0, 1) := by decide +kernel
theorem dX2_hasOwner_17 : decode cX2_hasOwner 17 = .ok (.ireturn, 1) := by decide +kernel
theorem dX2_hasDrive_0 : decode cX2_hasDrive 0 = .ok (.iload_n 1, 1) := by decide +kernel
theorem dX2_hasDrive_1 : decode cX2_hasDrive 1 = .ok (.ifCond .lt 15, 3) := by decide +kernel
theorem dX2_hasDrive_4 : decode cX2_hasDrive 4 = .ok (.iload_n 1, 1) := by decide +kernel
theorem dX2_hasDrive_5 : decode cX2_hasDrive 5 = .ok (.aload_n 0, 1) := by decide +kernel
theorem dX2_hasDrive_6 : decode cX2_hasDrive 6 = .ok (.getfield 44, 3) := by decide +kernel
theorem dX2_hasDrive_9 : decode cX2_hasDrive 9 = .ok (.if_icmp .ge 7, 3) := by decide +kernel
theorem dX2_hasDrive_12 : decode cX2_hasDrive 12 = .ok (.iconst 1, 1) := by decide +kernel
theorem dX2_hasDrive_13 : decode cX2_hasDrive 13 = .ok (.goto 4, 3) := by decide +kernel
theorem dX2_hasDrive_16 : decode cX2_hasDrive 16 = .ok (.iconst 0, 1) := by decide +kernel
theorem dX2_hasDrive_17 : decode cX2_hasDrive 17 = .ok (.ireturn, 1) := by decide +kernel
theorem dX2_counterOf_0 : decode cX2_counterOf 0 = .ok (.aload_n 0, 1) := by decide +kernel
theorem dX2_counterOf_1 : decode cX2_counterOf 1 = .ok (.getfield 9, 3) := by decide +kernel
theorem dX2_counterOf_4 : decode cX2_counterOf 4 = .ok (.iconst 0, 1) := by decide +kernel
theorem dX2_counterOf_5 : decode cX2_counterOf 5 = .ok (.iaload, 1) := by decide +kernel
theorem dX2_counterOf_6 : decode cX2_counterOf 6 = .ok (.iconst 1, 1) := by decide +kernel
theorem dX2_counterOf_7 : decode cX2_counterOf 7 = .ok (.if_icmp .ne 7, 3) := by decide +kernel
theorem dX2_counterOf_10 : decode cX2_counterOf 10 = .ok (.iconst 0, 1) := by decide +kernel
theorem dX2_counterOf_11 : decode cX2_counterOf 11 = .ok (.goto 4, 3) := by decide +kernel
theorem dX2_counterOf_14 : decode cX2_counterOf 14 = .ok (.iload_n 1, 1) := by decide +kernel
theorem dX2_counterOf_15 : decode cX2_counterOf 15 = .ok (.ireturn, 1) := by decide +kernel
theorem dX2_fogOf_0 : decode cX2_fogOf 0 = .ok (.aload_n 0, 1) := by decide +kernel
theorem dX2_fogOf_1 : decode cX2_fogOf 1 = .ok (.getfield 18, 3) := by decide +kernel
theorem dX2_fogOf_4 : decode cX2_fogOf 4 = .ok (.iload_n 2, 1) := by decide +kernel
theorem dX2_fogOf_5 : decode cX2_fogOf 5 = .ok (.iconst 4, 1) := by decide +kernel
theorem dX2_fogOf_6 : decode cX2_fogOf 6 = .ok (.imul, 1) := by decide +kernel
theorem dX2_fogOf_7 : decode cX2_fogOf 7 = .ok (.iload_n 1, 1) := by decide +kernel
theorem dX2_fogOf_8 : decode cX2_fogOf 8 = .ok (.iadd, 1) := by decide +kernel
theorem dX2_fogOf_9 : decode cX2_fogOf 9 = .ok (.iaload, 1) := by decide +kernel
theorem dX2_fogOf_10 : decode cX2_fogOf 10 = .ok (.ireturn, 1) := by decide +kernel
theorem dX2_passage_0 : decode cX2_passage 0 = .ok (.aload_n 0, 1) := by decide +kernel
theorem dX2_passage_1 : decode cX2_passage 1 = .ok (.getfield 23, 3) := by decide +kernel
theorem dX2_passage_4 : decode cX2_passage 4 = .ok (.iload_n 1, 1) := by decide +kernel
theorem dX2_passage_5 : decode cX2_passage 5 = .ok (.aaload, 1) := by decide +kernel
theorem dX2_passage_6 : decode cX2_passage 6 = .ok (.astore_n 2, 1) := by decide +kernel
theorem dX2_passage_7 : decode cX2_passage 7 = .ok (.bipush 24, 2) := by decide +kernel
theorem dX2_passage_9 : decode cX2_passage 9 = .ok (.aload_n 2, 1) := by decide +kernel
theorem dX2_passage_10 : decode cX2_passage 10 = .ok (.getfield 66, 3) := by decide +kernel
theorem dX2_passage_13 : decode cX2_passage 13 = .ok (.imul, 1) := by decide +kernel
theorem dX2_passage_14 : decode cX2_passage 14 = .ok (.aload_n 2, 1) := by decide +kernel
theorem dX2_passage_15 : decode cX2_passage 15 = .ok (.getfield 69, 3) := by decide +kernel
theorem dX2_passage_18 : decode cX2_passage 18 = .ok (.iadd, 1) := by decide +kernel
theorem dX2_passage_19 : decode cX2_passage 19 = .ok (.aload_n 2, 1) := by decide +kernel
theorem dX2_passage_20 : decode cX2_passage 20 = .ok (.getfield 72, 3) := by decide +kernel
theorem dX2_passage_23 : decode cX2_passage 23 = .ok (.iadd, 1) := by decide +kernel
theorem dX2_passage_24 : decode cX2_passage 24 = .ok (.istore_n 3, 1) := by decide +kernel
theorem dX2_passage_25 : decode cX2_passage 25 = .ok (.iload_n 3, 1) := by decide +kernel
theorem dX2_passage_26 : decode cX2_passage 26 = .ok (.bipush 24, 2) := by decide +kernel
theorem dX2_passage_28 : decode cX2_passage 28 = .ok (.aload_n 0, 1) := by decide +kernel
theorem dX2_passage_29 : decode cX2_passage 29 = .ok (.getfield 35, 3) := by decide +kernel
theorem dX2_passage_32 : decode cX2_passage 32 = .ok (.imul, 1) := by decide +kernel
theorem dX2_passage_33 : decode cX2_passage 33 = .ok (.if_icmp .ge 7, 3) := by decide +kernel
theorem dX2_passage_36 : decode cX2_passage 36 = .ok (.iload_n 3, 1) := by decide +kernel
theorem dX2_passage_37 : decode cX2_passage 37 = .ok (.goto 4, 3) := by decide +kernel
theorem dX2_passage_40 : decode cX2_passage 40 = .ok (.iconst (-1), 1) := by decide +kernel
theorem dX2_passage_41 : decode cX2_passage 41 = .ok (.ireturn, 1) := by decide +kernel
theorem dX2_goesBy_0 : decode cX2_goesBy 0 = .ok (.aload_n 0, 1) := by decide +kernel
theorem dX2_goesBy_1 : decode cX2_goesBy 1 = .ok (.iload_n 1, 1) := by decide +kernel
theorem dX2_goesBy_2 : decode cX2_goesBy 2 = .ok (.invokevirtual 75, 3) := by decide +kernel
theorem dX2_goesBy_5 : decode cX2_goesBy 5 = .ok (.istore 4, 2) := by decide +kernel
theorem dX2_goesBy_7 : decode cX2_goesBy 7 = .ok (.iload 4, 2) := by decide +kernel
theorem dX2_goesBy_9 : decode cX2_goesBy 9 = .ok (.iconst (-1), 1) := by decide +kernel
theorem dX2_goesBy_10 : decode cX2_goesBy 10 = .ok (.if_icmp .eq 29, 3) := by decide +kernel
theorem dX2_goesBy_13 : decode cX2_goesBy 13 = .ok (.iload 4, 2) := by decide +kernel
theorem dX2_goesBy_15 : decode cX2_goesBy 15 = .ok (.bipush 24, 2) := by decide +kernel
theorem dX2_goesBy_17 : decode cX2_goesBy 17 = .ok (.idiv, 1) := by decide +kernel
theorem dX2_goesBy_18 : decode cX2_goesBy 18 = .ok (.iload_n 3, 1) := by decide +kernel
theorem dX2_goesBy_19 : decode cX2_goesBy 19 = .ok (.if_icmp .ne 20, 3) := by decide +kernel
theorem dX2_goesBy_22 : decode cX2_goesBy 22 = .ok (.aload_n 0, 1) := by decide +kernel
theorem dX2_goesBy_23 : decode cX2_goesBy 23 = .ok (.getfield 23, 3) := by decide +kernel
theorem dX2_goesBy_26 : decode cX2_goesBy 26 = .ok (.iload_n 1, 1) := by decide +kernel
theorem dX2_goesBy_27 : decode cX2_goesBy 27 = .ok (.aaload, 1) := by decide +kernel
theorem dX2_goesBy_28 : decode cX2_goesBy 28 = .ok (.getfield 79, 3) := by decide +kernel
theorem dX2_goesBy_31 : decode cX2_goesBy 31 = .ok (.iload_n 2, 1) := by decide +kernel
theorem dX2_goesBy_32 : decode cX2_goesBy 32 = .ok (.if_icmp .ne 7, 3) := by decide +kernel
theorem dX2_goesBy_35 : decode cX2_goesBy 35 = .ok (.iconst 1, 1) := by decide +kernel
theorem dX2_goesBy_36 : decode cX2_goesBy 36 = .ok (.goto 4, 3) := by decide +kernel
theorem dX2_goesBy_39 : decode cX2_goesBy 39 = .ok (.iconst 0, 1) := by decide +kernel
theorem dX2_goesBy_40 : decode cX2_goesBy 40 = .ok (.ireturn, 1) := by decide +kernel
theorem dX2_lambsCount_0 : decode cX2_lambsCount 0 = .ok (.aload_n 0, 1) := by decide +kernel
theorem dX2_lambsCount_1 : decode cX2_lambsCount 1 = .ok (.getfield 9, 3) := by decide +kernel
theorem dX2_lambsCount_4 : decode cX2_lambsCount 4 = .ok (.iconst 2, 1) := by decide +kernel
theorem dX2_lambsCount_5 : decode cX2_lambsCount 5 = .ok (.iaload, 1) := by decide +kernel
theorem dX2_lambsCount_6 : decode cX2_lambsCount 6 = .ok (.ifCond .ne 15, 3) := by decide +kernel
theorem dX2_lambsCount_9 : decode cX2_lambsCount 9 = .ok (.iload_n 1, 1) := by decide +kernel
theorem dX2_lambsCount_10 : decode cX2_lambsCount 10 = .ok (.aload_n 0, 1) := by decide +kernel
theorem dX2_lambsCount_11 : decode cX2_lambsCount 11 = .ok (.getfield 41, 3) := by decide +kernel
theorem dX2_lambsCount_14 : decode cX2_lambsCount 14 = .ok (.if_icmp .lt 7, 3) := by decide +kernel
theorem dX2_lambsCount_17 : decode cX2_lambsCount 17 = .ok (.iconst 1, 1) := by decide +kernel
theorem dX2_lambsCount_18 : decode cX2_lambsCount 18 = .ok (.goto 4, 3) := by decide +kernel
theorem dX2_lambsCount_21 : decode cX2_lambsCount 21 = .ok (.iconst 0, 1) := by decide +kernel
theorem dX2_lambsCount_22 : decode cX2_lambsCount 22 = .ok (.ireturn, 1) := by decide +kernel
theorem dX2_beastsThrough_0 : decode cX2_beastsThrough 0 = .ok (.iconst 0, 1) := by decide +kernel
theorem dX2_beastsThrough_1 : decode cX2_beastsThrough 1 = .ok (.istore_n 3, 1) := by decide +kernel
theorem dX2_beastsThrough_2 : decode cX2_beastsThrough 2 = .ok (.iconst 0, 1) := by decide +kernel
theorem dX2_beastsThrough_3 : decode cX2_beastsThrough 3 = .ok (.istore 4, 2) := by decide +kernel
theorem dX2_beastsThrough_5 : decode cX2_beastsThrough 5 = .ok (.iload 4, 2) := by decide +kernel
theorem dX2_beastsThrough_7 : decode cX2_beastsThrough 7 = .ok (.aload_n 0, 1) := by decide +kernel
theorem dX2_beastsThrough_8 : decode cX2_beastsThrough 8 = .ok (.getfield 44, 3) := by decide +kernel
theorem dX2_beastsThrough_11 : decode cX2_beastsThrough 11 = .ok (.if_icmp .ge 44, 3) := by decide +kernel
theorem dX2_beastsThrough_14 : decode cX2_beastsThrough 14 = .ok (.aload_n 0, 1) := by decide +kernel
theorem dX2_beastsThrough_15 : decode cX2_beastsThrough 15 = .ok (.iload 4, 2) := by decide +kernel
theorem dX2_beastsThrough_17 : decode cX2_beastsThrough 17 = .ok (.iload_n 1, 1) := by decide +kernel
theorem dX2_beastsThrough_18 : decode cX2_beastsThrough 18 = .ok (.iload_n 2, 1) := by decide +kernel
theorem dX2_beastsThrough_19 : decode cX2_beastsThrough 19 = .ok (.invokevirtual 82, 3) := by decide +kernel
theorem dX2_beastsThrough_22 : decode cX2_beastsThrough 22 = .ok (.ifCond .eq 27, 3) := by decide +kernel
theorem dX2_beastsThrough_25 : decode cX2_beastsThrough 25 = .ok (.iload_n 3, 1) := by decide +kernel
theorem dX2_beastsThrough_26 : decode cX2_beastsThrough 26 = .ok (.aload_n 0, 1) := by decide +kernel
theorem dX2_beastsThrough_27 : decode cX2_beastsThrough 27 = .ok (.getfield 23, 3) := by decide +kernel
theorem dX2_beastsThrough_30 : decode cX2_beastsThrough 30 = .ok (.iload 4, 2) := by decide +kernel
theorem dX2_beastsThrough_32 : decode cX2_beastsThrough 32 = .ok (.aaload, 1) := by decide +kernel
theorem dX2_beastsThrough_33 : decode cX2_beastsThrough 33 = .ok (.getfield 86, 3) := by decide +kernel
theorem dX2_beastsThrough_36 : decode cX2_beastsThrough 36 = .ok (.aload_n 0, 1) := by decide +kernel
theorem dX2_beastsThrough_37 : decode cX2_beastsThrough 37 = .ok (.getfield 23, 3) := by decide +kernel
theorem dX2_beastsThrough_40 : decode cX2_beastsThrough 40 = .ok (.iload 4, 2) := by decide +kernel
theorem dX2_beastsThrough_42 : decode cX2_beastsThrough 42 = .ok (.aaload, 1) := by decide +kernel
theorem dX2_beastsThrough_43 : decode cX2_beastsThrough 43 = .ok (.getfield 89, 3) := by decide +kernel
theorem dX2_beastsThrough_46 : decode cX2_beastsThrough 46 = .ok (.iadd, 1) := by decide +kernel
theorem dX2_beastsThrough_47 : decode cX2_beastsThrough 47 = .ok (.iadd, 1) := by decide +kernel
theorem dX2_beastsThrough_48 : decode cX2_beastsThrough 48 = .ok (.istore_n 3, 1) := by decide +kernel
theorem dX2_beastsThrough_49 : decode cX2_beastsThrough 49 = .ok (.iinc 4 1, 3) := by decide +kernel
theorem dX2_beastsThrough_52 : decode cX2_beastsThrough 52 = .ok (.goto (-47), 3) := by decide +kernel
theorem dX2_beastsThrough_55 : decode cX2_beastsThrough 55 = .ok (.iload_n 3, 1) := by decide +kernel
theorem dX2_beastsThrough_56 : decode cX2_beastsThrough 56 = .ok (.ireturn, 1) := by decide +kernel
theorem dX2_countedThrough_0 : decode cX2_countedThrough 0 = .ok (.iconst 0, 1) := by decide +kernel
theorem dX2_countedThrough_1 : decode cX2_countedThrough 1 = .ok (.istore_n 3, 1) := by decide +kernel
theorem dX2_countedThrough_2 : decode cX2_countedThrough 2 = .ok (.iconst 0, 1) := by decide +kernel
theorem dX2_countedThrough_3 : decode cX2_countedThrough 3 = .ok (.istore 4, 2) := by decide +kernel
theorem dX2_countedThrough_5 : decode cX2_countedThrough 5 = .ok (.iload 4, 2) := by decide +kernel
theorem dX2_countedThrough_7 : decode cX2_countedThrough 7 = .ok (.aload_n 0, 1) := by decide +kernel
theorem dX2_countedThrough_8 : decode cX2_countedThrough 8 = .ok (.getfield 44, 3) := by decide +kernel
theorem dX2_countedThrough_11 : decode cX2_countedThrough 11 = .ok (.if_icmp .ge 38, 3) := by decide +kernel
theorem dX2_countedThrough_14 : decode cX2_countedThrough 14 = .ok (.aload_n 0, 1) := by decide +kernel
theorem dX2_countedThrough_15 : decode cX2_countedThrough 15 = .ok (.iload 4, 2) := by decide +kernel
theorem dX2_countedThrough_17 : decode cX2_countedThrough 17 = .ok (.iload_n 1, 1) := by decide +kernel
theorem dX2_countedThrough_18 : decode cX2_countedThrough 18 = .ok (.iload_n 2, 1) := by decide +kernel
theorem dX2_countedThrough_19 : decode cX2_countedThrough 19 = .ok (.invokevirtual 82, 3) := by decide +kernel
theorem dX2_countedThrough_22 : decode cX2_countedThrough 22 = .ok (.ifCond .eq 21, 3) := by decide +kernel
theorem dX2_countedThrough_25 : decode cX2_countedThrough 25 = .ok (.iload_n 3, 1) := by decide +kernel
theorem dX2_countedThrough_26 : decode cX2_countedThrough 26 = .ok (.aload_n 0, 1) := by decide +kernel
theorem dX2_countedThrough_27 : decode cX2_countedThrough 27 = .ok (.getfield 23, 3) := by decide +kernel
theorem dX2_countedThrough_30 : decode cX2_countedThrough 30 = .ok (.iload 4, 2) := by decide +kernel
theorem dX2_countedThrough_32 : decode cX2_countedThrough 32 = .ok (.aaload, 1) := by decide +kernel
theorem dX2_countedThrough_33 : decode cX2_countedThrough 33 = .ok (.aload_n 0, 1) := by decide +kernel
theorem dX2_countedThrough_34 : decode cX2_countedThrough 34 = .ok (.iload_n 2, 1) := by decide +kernel
theorem dX2_countedThrough_35 : decode cX2_countedThrough 35 = .ok (.invokevirtual 92, 3) := by decide +kernel
theorem dX2_countedThrough_38 : decode cX2_countedThrough 38 = .ok (.invokevirtual 96, 3) := by decide +kernel
theorem dX2_countedThrough_41 : decode cX2_countedThrough 41 = .ok (.iadd, 1) := by decide +kernel
theorem dX2_countedThrough_42 : decode cX2_countedThrough 42 = .ok (.istore_n 3, 1) := by decide +kernel
theorem dX2_countedThrough_43 : decode cX2_countedThrough 43 = .ok (.iinc 4 1, 3) := by decide +kernel
theorem dX2_countedThrough_46 : decode cX2_countedThrough 46 = .ok (.goto (-41), 3) := by decide +kernel
theorem dX2_countedThrough_49 : decode cX2_countedThrough 49 = .ok (.aload_n 0, 1) := by decide +kernel
theorem dX2_countedThrough_50 : decode cX2_countedThrough 50 = .ok (.iload_n 1, 1) := by decide +kernel
theorem dX2_countedThrough_51 : decode cX2_countedThrough 51 = .ok (.iload_n 2, 1) := by decide +kernel
theorem dX2_countedThrough_52 : decode cX2_countedThrough 52 = .ok (.invokevirtual 100, 3) := by decide +kernel
theorem dX2_countedThrough_55 : decode cX2_countedThrough 55 = .ok (.istore 4, 2) := by decide +kernel
theorem dX2_countedThrough_57 : decode cX2_countedThrough 57 = .ok (.iload 4, 2) := by decide +kernel
theorem dX2_countedThrough_59 : decode cX2_countedThrough 59 = .ok (.ifCond .le 12, 3) := by decide +kernel
theorem dX2_countedThrough_62 : decode cX2_countedThrough 62 = .ok (.iload_n 3, 1) := by decide +kernel
theorem dX2_countedThrough_63 : decode cX2_countedThrough 63 = .ok (.iload_n 3, 1) := by decide +kernel
theorem dX2_countedThrough_64 : decode cX2_countedThrough 64 = .ok (.iload 4, 2) := by decide +kernel
theorem dX2_countedThrough_66 : decode cX2_countedThrough 66 = .ok (.idiv, 1) := by decide +kernel
theorem dX2_countedThrough_67 : decode cX2_countedThrough 67 = .ok (.isub, 1) := by decide +kernel
theorem dX2_countedThrough_68 : decode cX2_countedThrough 68 = .ok (.goto 4, 3) := by decide +kernel
theorem dX2_countedThrough_71 : decode cX2_countedThrough 71 = .ok (.iload_n 3, 1) := by decide +kernel
theorem dX2_countedThrough_72 : decode cX2_countedThrough 72 = .ok (.ireturn, 1) := by decide +kernel
theorem dX3_init_0 : decode cX3_init 0 = .ok (.aload_n 0, 1) := by decide +kernel
theorem dX3_init_1 : decode cX3_init 1 = .ok (.invokespecial 3, 3) := by decide +kernel
theorem dX3_init_4 : decode cX3_init 4 = .ok (.aload_n 0, 1) := by decide +kernel
theorem dX3_init_5 : decode cX3_init 5 = .ok (.bipush 6, 2) := by decide +kernel
theorem dX3_init_7 : decode cX3_init 7 = .ok (.newarray .int, 2) := by decide +kernel
theorem dX3_init_9 : decode cX3_init 9 = .ok (.putfield 9, 3) := by decide +kernel
theorem dX3_init_12 : decode cX3_init 12 = .ok (.aload_n 0, 1) := by decide +kernel
theorem dX3_init_13 : decode cX3_init 13 = .ok (.bipush 6, 2) := by decide +kernel
theorem dX3_init_15 : decode cX3_init 15 = .ok (.newarray .int, 2) := by decide +kernel
theorem dX3_init_17 : decode cX3_init 17 = .ok (.putfield 15, 3) := by decide +kernel
theorem dX3_init_20 : decode cX3_init 20 = .ok (.aload_n 0, 1) := by decide +kernel
theorem dX3_init_21 : decode cX3_init 21 = .ok (.bipush 12, 2) := by decide +kernel
theorem dX3_init_23 : decode cX3_init 23 = .ok (.newarray .int, 2) := by decide +kernel
theorem dX3_init_25 : decode cX3_init 25 = .ok (.putfield 18, 3) := by decide +kernel
theorem dX3_init_28 : decode cX3_init 28 = .ok (.aload_n 0, 1) := by decide +kernel
theorem dX3_init_29 : decode cX3_init 29 = .ok (.aload_n 1, 1) := by decide +kernel
theorem dX3_init_30 : decode cX3_init 30 = .ok (.putfield 21, 3) := by decide +kernel
theorem dX3_init_33 : decode cX3_init 33 = .ok (.return_, 1) := by decide +kernel
theorem dX3_gather_0 : decode cX3_gather 0 = .ok (.aload_n 0, 1) := by decide +kernel
theorem dX3_gather_1 : decode cX3_gather 1 = .ok (.iconst 0, 1) := by decide +kernel
theorem dX3_gather_2 : decode cX3_gather 2 = .ok (.putfield 25, 3) := by decide +kernel
theorem dX3_gather_5 : decode cX3_gather 5 = .ok (.iconst 0, 1) := by decide +kernel
theorem dX3_gather_6 : decode cX3_gather 6 = .ok (.istore 4, 2) := by decide +kernel
theorem dX3_gather_8 : decode cX3_gather 8 = .ok (.iconst 0, 1) := by decide +kernel
theorem dX3_gather_9 : decode cX3_gather 9 = .ok (.istore 5, 2) := by decide +kernel
theorem dX3_gather_11 : decode cX3_gather 11 = .ok (.iload 5, 2) := by decide +kernel
theorem dX3_gather_13 : decode cX3_gather 13 = .ok (.aload_n 1, 1) := by decide +kernel
theorem dX3_gather_14 : decode cX3_gather 14 = .ok (.getfield 29, 3) := by decide +kernel
theorem dX3_gather_17 : decode cX3_gather 17 = .ok (.if_icmp .ge 53, 3) := by decide +kernel
theorem dX3_gather_20 : decode cX3_gather 20 = .ok (.aload_n 1, 1) := by decide +kernel
theorem dX3_gather_21 : decode cX3_gather 21 = .ok (.iload 5, 2) := by decide +kernel
theorem dX3_gather_23 : decode cX3_gather 23 = .ok (.iload_n 2, 1) := by decide +kernel
theorem dX3_gather_24 : decode cX3_gather 24 = .ok (.iload_n 3, 1) := by decide +kernel
theorem dX3_gather_25 : decode cX3_gather 25 = .ok (.invokevirtual 34, 3) := by decide +kernel
theorem dX3_gather_28 : decode cX3_gather 28 = .ok (.ifCond .eq 36, 3) := by decide +kernel
theorem dX3_gather_31 : decode cX3_gather 31 = .ok (.aload_n 0, 1) := by decide +kernel
theorem dX3_gather_32 : decode cX3_gather 32 = .ok (.getfield 25, 3) := by decide +kernel
theorem dX3_gather_35 : decode cX3_gather 35 = .ok (.bipush 6, 2) := by decide +kernel
theorem dX3_gather_37 : decode cX3_gather 37 = .ok (.if_icmp .ge 24, 3) := by decide +kernel
theorem dX3_gather_40 : decode cX3_gather 40 = .ok (.aload_n 0, 1) := by decide +kernel
theorem dX3_gather_41 : decode cX3_gather 41 = .ok (.getfield 9, 3) := by decide +kernel
theorem dX3_gather_44 : decode cX3_gather 44 = .ok (.aload_n 0, 1) := by decide +kernel
theorem dX3_gather_45 : decode cX3_gather 45 = .ok (.getfield 25, 3) := by decide +kernel
theorem dX3_gather_48 : decode cX3_gather 48 = .ok (.iload 5, 2) := by decide +kernel
theorem dX3_gather_50 : decode cX3_gather 50 = .ok (.iastore, 1) := by decide +kernel
theorem dX3_gather_51 : decode cX3_gather 51 = .ok (.aload_n 0, 1) := by decide +kernel
theorem dX3_gather_52 : decode cX3_gather 52 = .ok (.dup, 1) := by decide +kernel
theorem dX3_gather_53 : decode cX3_gather 53 = .ok (.getfield 25, 3) := by decide +kernel
theorem dX3_gather_56 : decode cX3_gather 56 = .ok (.iconst 1, 1) := by decide +kernel
theorem dX3_gather_57 : decode cX3_gather 57 = .ok (.iadd, 1) := by decide +kernel
theorem dX3_gather_58 : decode cX3_gather 58 = .ok (.putfield 25, 3) := by decide +kernel
theorem dX3_gather_61 : decode cX3_gather 61 = .ok (.iinc 4 1, 3) := by decide +kernel
theorem dX3_gather_64 : decode cX3_gather 64 = .ok (.iinc 5 1, 3) := by decide +kernel
theorem dX3_gather_67 : decode cX3_gather 67 = .ok (.goto (-56), 3) := by decide +kernel
theorem dX3_gather_70 : decode cX3_gather 70 = .ok (.iload 4, 2) := by decide +kernel
theorem dX3_gather_72 : decode cX3_gather 72 = .ok (.ireturn, 1) := by decide +kernel
theorem dX3_search_0 : decode cX3_search 0 = .ok (.aload_n 0, 1) := by decide +kernel
theorem dX3_search_1 : decode cX3_search 1 = .ok (.iconst 0, 1) := by decide +kernel
theorem dX3_search_2 : decode cX3_search 2 = .ok (.putfield 38, 3) := by decide +kernel
theorem dX3_search_5 : decode cX3_search 5 = .ok (.aload_n 0, 1) := by decide +kernel
theorem dX3_search_6 : decode cX3_search 6 = .ok (.getfield 18, 3) := by decide +kernel
theorem dX3_search_9 : decode cX3_search 9 = .ok (.iconst (-1), 1) := by decide +kernel
theorem dX3_search_10 : decode cX3_search 10 = .ok (.invokestatic 41, 3) := by decide +kernel
theorem dX3_search_13 : decode cX3_search 13 = .ok (.aload_n 0, 1) := by decide +kernel
theorem dX3_search_14 : decode cX3_search 14 = .ok (.getfield 21, 3) := by decide +kernel
theorem dX3_search_17 : decode cX3_search 17 = .ok (.aload_n 1, 1) := by decide +kernel
theorem dX3_search_18 : decode cX3_search 18 = .ok (.iload_n 2, 1) := by decide +kernel
theorem dX3_search_19 : decode cX3_search 19 = .ok (.iload_n 3, 1) := by decide +kernel
theorem dX3_search_20 : decode cX3_search 20 = .ok (.invokevirtual 47, 3) := by decide +kernel
theorem dX3_search_23 : decode cX3_search 23 = .ok (.aload_n 1, 1) := by decide +kernel
theorem dX3_search_24 : decode cX3_search 24 = .ok (.iload_n 2, 1) := by decide +kernel
theorem dX3_search_25 : decode cX3_search 25 = .ok (.invokevirtual 53, 3) := by decide +kernel
theorem dX3_search_28 : decode cX3_search 28 = .ok (.istore 6, 2) := by decide +kernel
theorem dX3_search_30 : decode cX3_search 30 = .ok (.aload_n 0, 1) := by decide +kernel
theorem dX3_search_31 : decode cX3_search 31 = .ok (.getfield 21, 3) := by decide +kernel
theorem dX3_search_34 : decode cX3_search 34 = .ok (.getfield 57, 3) := by decide +kernel
theorem dX3_search_37 : decode cX3_search 37 = .ok (.iload 6, 2) := by decide +kernel
theorem dX3_search_39 : decode cX3_search 39 = .ok (.iaload, 1) := by decide +kernel
theorem dX3_search_40 : decode cX3_search 40 = .ok (.istore 7, 2) := by decide +kernel
theorem dX3_search_42 : decode cX3_search 42 = .ok (.iconst 1, 1) := by decide +kernel
theorem dX3_search_43 : decode cX3_search 43 = .ok (.istore 8, 2) := by decide +kernel
theorem dX3_search_45 : decode cX3_search 45 = .ok (.iconst 0, 1) := by decide +kernel
theorem dX3_search_46 : decode cX3_search 46 = .ok (.istore 9, 2) := by decide +kernel
theorem dX3_search_48 : decode cX3_search 48 = .ok (.iload 9, 2) := by decide +kernel
theorem dX3_search_50 : decode cX3_search 50 = .ok (.sipush 720, 3) := by decide +kernel
theorem dX3_search_53 : decode cX3_search 53 = .ok (.if_icmp .ge 59, 3) := by decide +kernel
theorem dX3_search_56 : decode cX3_search 56 = .ok (.iload 8, 2) := by decide +kernel
theorem dX3_search_58 : decode cX3_search 58 = .ok (.ifCond .eq 54, 3) := by decide +kernel
theorem dX3_search_61 : decode cX3_search 61 = .ok (.aload_n 0, 1) := by decide +kernel
theorem dX3_search_62 : decode cX3_search 62 = .ok (.getfield 21, 3) := by decide +kernel
theorem dX3_search_65 : decode cX3_search 65 = .ok (.getfield 57, 3) := by decide +kernel
theorem dX3_search_68 : decode cX3_search 68 = .ok (.iload 6, 2) := by decide +kernel
theorem dX3_search_70 : decode cX3_search 70 = .ok (.iload 7, 2) := by decide +kernel
theorem dX3_search_72 : decode cX3_search 72 = .ok (.iastore, 1) := by decide +kernel
theorem dX3_search_73 : decode cX3_search 73 = .ok (.aload_n 0, 1) := by decide +kernel
theorem dX3_search_74 : decode cX3_search 74 = .ok (.getfield 21, 3) := by decide +kernel
theorem dX3_search_77 : decode cX3_search 77 = .ok (.getfield 60, 3) := by decide +kernel
theorem dX3_search_80 : decode cX3_search 80 = .ok (.iload_n 2, 1) := by decide +kernel
theorem dX3_search_81 : decode cX3_search 81 = .ok (.iconst 0, 1) := by decide +kernel
theorem dX3_search_82 : decode cX3_search 82 = .ok (.iastore, 1) := by decide +kernel
theorem dX3_search_83 : decode cX3_search 83 = .ok (.aload_n 0, 1) := by decide +kernel
theorem dX3_search_84 : decode cX3_search 84 = .ok (.aload_n 1, 1) := by decide +kernel
theorem dX3_search_85 : decode cX3_search 85 = .ok (.iload_n 3, 1) := by decide +kernel
theorem dX3_search_86 : decode cX3_search 86 = .ok (.aload 4, 2) := by decide +kernel
theorem dX3_search_88 : decode cX3_search 88 = .ok (.iload 5, 2) := by decide +kernel
theorem dX3_search_90 : decode cX3_search 90 = .ok (.invokevirtual 63, 3) := by decide +kernel
theorem dX3_search_93 : decode cX3_search 93 = .ok (.ifCond .eq 7, 3) := by decide +kernel
theorem dX3_search_96 : decode cX3_search 96 = .ok (.aload_n 0, 1) := by decide +kernel
theorem dX3_search_97 : decode cX3_search 97 = .ok (.invokevirtual 67, 3) := by decide +kernel
theorem dX3_search_100 : decode cX3_search 100 = .ok (.aload_n 0, 1) := by decide +kernel
theorem dX3_search_101 : decode cX3_search 101 = .ok (.invokevirtual 70, 3) := by decide +kernel
theorem dX3_search_104 : decode cX3_search 104 = .ok (.istore 8, 2) := by decide +kernel
theorem dX3_search_106 : decode cX3_search 106 = .ok (.iinc 9 1, 3) := by decide +kernel
theorem dX3_search_109 : decode cX3_search 109 = .ok (.goto (-61), 3) := by decide +kernel
theorem dX3_search_112 : decode cX3_search 112 = .ok (.return_, 1) := by decide +kernel
theorem dX3_explains_0 : decode cX3_explains 0 = .ok (.aload_n 3, 1) := by decide +kernel
theorem dX3_explains_1 : decode cX3_explains 1 = .ok (.getfield 74, 3) := by decide +kernel
theorem dX3_explains_4 : decode cX3_explains 4 = .ok (.iload 4, 2) := by decide +kernel
theorem dX3_explains_6 : decode cX3_explains 6 = .ok (.iaload, 1) := by decide +kernel
theorem dX3_explains_7 : decode cX3_explains 7 = .ok (.istore 5, 2) := by decide +kernel
theorem dX3_explains_9 : decode cX3_explains 9 = .ok (.iconst 0, 1) := by decide +kernel
theorem dX3_explains_10 : decode cX3_explains 10 = .ok (.istore 6, 2) := by decide +kernel
theorem dX3_explains_12 : decode cX3_explains 12 = .ok (.iconst 0, 1) := by decide +kernel
theorem dX3_explains_13 : decode cX3_explains 13 = .ok (.istore 7, 2) := by decide +kernel
theorem dX3_explains_15 : decode cX3_explains 15 = .ok (.iload 7, 2) := by decide +kernel
theorem dX3_explains_17 : decode cX3_explains 17 = .ok (.aload_n 0, 1) := by decide +kernel
theorem dX3_explains_18 : decode cX3_explains 18 = .ok (.getfield 25, 3) := by decide +kernel
theorem dX3_explains_21 : decode cX3_explains 21 = .ok (.if_icmp .ge 112, 3) := by decide +kernel
theorem dX3_explains_24 : decode cX3_explains 24 = .ok (.aload_n 1, 1) := by decide +kernel
theorem dX3_explains_25 : decode cX3_explains 25 = .ok (.getfield 79, 3) := by decide +kernel
theorem dX3_explains_28 : decode cX3_explains 28 = .ok (.aload_n 0, 1) := by decide +kernel
theorem dX3_explains_29 : decode cX3_explains 29 = .ok (.getfield 9, 3) := by decide +kernel
theorem dX3_explains_32 : decode cX3_explains 32 = .ok (.iload 7, 2) := by decide +kernel
theorem dX3_explains_34 : decode cX3_explains 34 = .ok (.iaload, 1) := by decide +kernel
theorem dX3_explains_35 : decode cX3_explains 35 = .ok (.aaload, 1) := by decide +kernel
theorem dX3_explains_36 : decode cX3_explains 36 = .ok (.astore 8, 2) := by decide +kernel
theorem dX3_explains_38 : decode cX3_explains 38 = .ok (.aload_n 0, 1) := by decide +kernel
theorem dX3_explains_39 : decode cX3_explains 39 = .ok (.getfield 21, 3) := by decide +kernel
theorem dX3_explains_42 : decode cX3_explains 42 = .ok (.aload_n 1, 1) := by decide +kernel
theorem dX3_explains_43 : decode cX3_explains 43 = .ok (.iload_n 2, 1) := by decide +kernel
theorem dX3_explains_44 : decode cX3_explains 44 = .ok (.bipush 24, 2) := by decide +kernel
theorem dX3_explains_46 : decode cX3_explains 46 = .ok (.imul, 1) := by decide +kernel
theorem dX3_explains_47 : decode cX3_explains 47 = .ok (.aload 8, 2) := by decide +kernel
theorem dX3_explains_49 : decode cX3_explains 49 = .ok (.getfield 83, 3) := by decide +kernel
theorem dX3_explains_52 : decode cX3_explains 52 = .ok (.aload_n 0, 1) := by decide +kernel
theorem dX3_explains_53 : decode cX3_explains 53 = .ok (.getfield 9, 3) := by decide +kernel
theorem dX3_explains_56 : decode cX3_explains 56 = .ok (.iload 7, 2) := by decide +kernel
theorem dX3_explains_58 : decode cX3_explains 58 = .ok (.iaload, 1) := by decide +kernel
theorem dX3_explains_59 : decode cX3_explains 59 = .ok (.invokestatic 88, 3) := by decide +kernel
theorem dX3_explains_62 : decode cX3_explains 62 = .ok (.invokevirtual 92, 3) := by decide +kernel
theorem dX3_explains_65 : decode cX3_explains 65 = .ok (.istore 9, 2) := by decide +kernel
theorem dX3_explains_67 : decode cX3_explains 67 = .ok (.iload 9, 2) := by decide +kernel
theorem dX3_explains_69 : decode cX3_explains 69 = .ok (.iload 5, 2) := by decide +kernel
theorem dX3_explains_71 : decode cX3_explains 71 = .ok (.iload 6, 2) := by decide +kernel
theorem dX3_explains_73 : decode cX3_explains 73 = .ok (.isub, 1) := by decide +kernel
theorem dX3_explains_74 : decode cX3_explains 74 = .ok (.if_icmp .le 5, 3) := by decide +kernel
theorem dX3_explains_77 : decode cX3_explains 77 = .ok (.iconst 0, 1) := by decide +kernel
theorem dX3_explains_78 : decode cX3_explains 78 = .ok (.ireturn, 1) := by decide +kernel
theorem dX3_explains_79 : decode cX3_explains 79 = .ok (.iconst 0, 1) := by decide +kernel
theorem dX3_explains_80 : decode cX3_explains 80 = .ok (.istore 10, 2) := by decide +kernel
theorem dX3_explains_82 : decode cX3_explains 82 = .ok (.iload 10, 2) := by decide +kernel
theorem dX3_explains_84 : decode cX3_explains 84 = .ok (.iload 9, 2) := by decide +kernel
theorem dX3_explains_86 : decode cX3_explains 86 = .ok (.if_icmp .ge 34, 3) := by decide +kernel
theorem dX3_explains_89 : decode cX3_explains 89 = .ok (.aload_n 3, 1) := by decide +kernel
theorem dX3_explains_90 : decode cX3_explains 90 = .ok (.getfield 96, 3) := by decide +kernel
theorem dX3_explains_93 : decode cX3_explains 93 = .ok (.iload 4, 2) := by decide +kernel
theorem dX3_explains_95 : decode cX3_explains 95 = .ok (.aaload, 1) := by decide +kernel
theorem dX3_explains_96 : decode cX3_explains 96 = .ok (.iload 6, 2) := by decide +kernel
theorem dX3_explains_98 : decode cX3_explains 98 = .ok (.iload 10, 2) := by decide +kernel
theorem dX3_explains_100 : decode cX3_explains 100 = .ok (.iadd, 1) := by decide +kernel
theorem dX3_explains_101 : decode cX3_explains 101 = .ok (.laload, 1) := by decide +kernel
theorem dX3_explains_102 : decode cX3_explains 102 = .ok (.aload 8, 2) := by decide +kernel
theorem dX3_explains_104 : decode cX3_explains 104 = .ok (.getfield 100, 3) := by decide +kernel
theorem dX3_explains_107 : decode cX3_explains 107 = .ok (.i2l, 1) := by decide +kernel
theorem dX3_explains_108 : decode cX3_explains 108 = .ok (.lcmp, 1) := by decide +kernel
theorem dX3_explains_109 : decode cX3_explains 109 = .ok (.ifCond .eq 5, 3) := by decide +kernel
theorem dX3_explains_112 : decode cX3_explains 112 = .ok (.iconst 0, 1) := by decide +kernel
theorem dX3_explains_113 : decode cX3_explains 113 = .ok (.ireturn, 1) := by decide +kernel
theorem dX3_explains_114 : decode cX3_explains 114 = .ok (.iinc 10 1, 3) := by decide +kernel
theorem dX3_explains_117 : decode cX3_explains 117 = .ok (.goto (-35), 3) := by decide +kernel
theorem dX3_explains_120 : decode cX3_explains 120 = .ok (.iload 6, 2) := by decide +kernel
theorem dX3_explains_122 : decode cX3_explains 122 = .ok (.iload 9, 2) := by decide +kernel
theorem dX3_explains_124 : decode cX3_explains 124 = .ok (.iadd, 1) := by decide +kernel
theorem dX3_explains_125 : decode cX3_explains 125 = .ok (.istore 6, 2) := by decide +kernel
theorem dX3_explains_127 : decode cX3_explains 127 = .ok (.iinc 7 1, 3) := by decide +kernel
theorem dX3_explains_130 : decode cX3_explains 130 = .ok (.goto (-115), 3) := by decide +kernel
theorem dX3_explains_133 : decode cX3_explains 133 = .ok (.iload 6, 2) := by decide +kernel
theorem dX3_explains_135 : decode cX3_explains 135 = .ok (.iload 5, 2) := by decide +kernel
theorem dX3_explains_137 : decode cX3_explains 137 = .ok (.if_icmp .ne 7, 3) := by decide +kernel
theorem dX3_explains_140 : decode cX3_explains 140 = .ok (.iconst 1, 1) := by decide +kernel
theorem dX3_explains_141 : decode cX3_explains 141 = .ok (.goto 4, 3) := by decide +kernel
theorem dX3_explains_144 : decode cX3_explains 144 = .ok (.iconst 0, 1) := by decide +kernel
theorem dX3_explains_145 : decode cX3_explains 145 = .ok (.ireturn, 1) := by decide +kernel
theorem dX3_note_0 : decode cX3_note 0 = .ok (.iconst 0, 1) := by decide +kernel
theorem dX3_note_1 : decode cX3_note 1 = .ok (.istore_n 1, 1) := by decide +kernel
theorem dX3_note_2 : decode cX3_note 2 = .ok (.iload_n 1, 1) := by decide +kernel
theorem dX3_note_3 : decode cX3_note 3 = .ok (.aload_n 0, 1) := by decide +kernel
theorem dX3_note_4 : decode cX3_note 4 = .ok (.getfield 25, 3) := by decide +kernel
theorem dX3_note_7 : decode cX3_note 7 = .ok (.if_icmp .ge 70, 3) := by decide +kernel
theorem dX3_note_10 : decode cX3_note 10 = .ok (.aload_n 0, 1) := by decide +kernel
theorem dX3_note_11 : decode cX3_note 11 = .ok (.getfield 38, 3) := by decide +kernel
theorem dX3_note_14 : decode cX3_note 14 = .ok (.ifCond .ne 30, 3) := by decide +kernel
theorem dX3_note_17 : decode cX3_note 17 = .ok (.aload_n 0, 1) := by decide +kernel
theorem dX3_note_18 : decode cX3_note 18 = .ok (.getfield 15, 3) := by decide +kernel
theorem dX3_note_21 : decode cX3_note 21 = .ok (.iload_n 1, 1) := by decide +kernel
theorem dX3_note_22 : decode cX3_note 22 = .ok (.aload_n 0, 1) := by decide +kernel
theorem dX3_note_23 : decode cX3_note 23 = .ok (.getfield 9, 3) := by decide +kernel
theorem dX3_note_26 : decode cX3_note 26 = .ok (.iload_n 1, 1) := by decide +kernel
theorem dX3_note_27 : decode cX3_note 27 = .ok (.iaload, 1) := by decide +kernel
theorem dX3_note_28 : decode cX3_note 28 = .ok (.iastore, 1) := by decide +kernel
theorem dX3_note_29 : decode cX3_note 29 = .ok (.aload_n 0, 1) := by decide +kernel
theorem dX3_note_30 : decode cX3_note 30 = .ok (.getfield 18, 3) := by decide +kernel
theorem dX3_note_33 : decode cX3_note 33 = .ok (.aload_n 0, 1) := by decide +kernel
theorem dX3_note_34 : decode cX3_note 34 = .ok (.getfield 9, 3) := by decide +kernel
theorem dX3_note_37 : decode cX3_note 37 = .ok (.iload_n 1, 1) := by decide +kernel
theorem dX3_note_38 : decode cX3_note 38 = .ok (.iaload, 1) := by decide +kernel
theorem dX3_note_39 : decode cX3_note 39 = .ok (.iload_n 1, 1) := by decide +kernel
theorem dX3_note_40 : decode cX3_note 40 = .ok (.iastore, 1) := by decide +kernel
theorem dX3_note_41 : decode cX3_note 41 = .ok (.goto 30, 3) := by decide +kernel
theorem dX3_note_44 : decode cX3_note 44 = .ok (.aload_n 0, 1) := by decide +kernel
theorem dX3_note_45 : decode cX3_note 45 = .ok (.getfield 18, 3) := by decide +kernel
theorem dX3_note_48 : decode cX3_note 48 = .ok (.aload_n 0, 1) := by decide +kernel
theorem dX3_note_49 : decode cX3_note 49 = .ok (.getfield 9, 3) := by decide +kernel
theorem dX3_note_52 : decode cX3_note 52 = .ok (.iload_n 1, 1) := by decide +kernel
theorem dX3_note_53 : decode cX3_note 53 = .ok (.iaload, 1) := by decide +kernel
theorem dX3_note_54 : decode cX3_note 54 = .ok (.iaload, 1) := by decide +kernel
theorem dX3_note_55 : decode cX3_note 55 = .ok (.iload_n 1, 1) := by decide +kernel
theorem dX3_note_56 : decode cX3_note 56 = .ok (.if_icmp .eq 15, 3) := by decide +kernel
theorem dX3_note_59 : decode cX3_note 59 = .ok (.aload_n 0, 1) := by decide +kernel
theorem dX3_note_60 : decode cX3_note 60 = .ok (.getfield 18, 3) := by decide +kernel
theorem dX3_note_63 : decode cX3_note 63 = .ok (.aload_n 0, 1) := by decide +kernel
theorem dX3_note_64 : decode cX3_note 64 = .ok (.getfield 9, 3) := by decide +kernel
theorem dX3_note_67 : decode cX3_note 67 = .ok (.iload_n 1, 1) := by decide +kernel
theorem dX3_note_68 : decode cX3_note 68 = .ok (.iaload, 1) := by decide +kernel
theorem dX3_note_69 : decode cX3_note 69 = .ok (.iconst (-1), 1) := by decide +kernel
theorem dX3_note_70 : decode cX3_note 70 = .ok (.iastore, 1) := by decide +kernel
theorem dX3_note_71 : decode cX3_note 71 = .ok (.iinc 1 1, 3) := by decide +kernel
theorem dX3_note_74 : decode cX3_note 74 = .ok (.goto (-72), 3) := by decide +kernel
theorem dX3_note_77 : decode cX3_note 77 = .ok (.aload_n 0, 1) := by decide +kernel
theorem dX3_note_78 : decode cX3_note 78 = .ok (.dup, 1) := by decide +kernel
theorem dX3_note_79 : decode cX3_note 79 = .ok (.getfield 38, 3) := by decide +kernel
theorem dX3_note_82 : decode cX3_note 82 = .ok (.iconst 1, 1) := by decide +kernel
theorem dX3_note_83 : decode cX3_note 83 = .ok (.iadd, 1) := by decide +kernel
theorem dX3_note_84 : decode cX3_note 84 = .ok (.putfield 38, 3) := by decide +kernel
theorem dX3_note_87 : decode cX3_note 87 = .ok (.return_, 1) := by decide +kernel
theorem dX3_permute_0 : decode cX3_permute 0 = .ok (.aload_n 0, 1) := by decide +kernel
theorem dX3_permute_1 : decode cX3_permute 1 = .ok (.getfield 25, 3) := by decide +kernel
theorem dX3_permute_4 : decode cX3_permute 4 = .ok (.iconst 2, 1) := by decide +kernel
theorem dX3_permute_5 : decode cX3_permute 5 = .ok (.isub, 1) := by decide +kernel
theorem dX3_permute_6 : decode cX3_permute 6 = .ok (.istore_n 1, 1) := by decide +kernel
theorem dX3_permute_7 : decode cX3_permute 7 = .ok (.iload_n 1, 1) := by decide +kernel
theorem dX3_permute_8 : decode cX3_permute 8 = .ok (.ifCond .lt 26, 3) := by decide +kernel
theorem dX3_permute_11 : decode cX3_permute 11 = .ok (.aload_n 0, 1) := by decide +kernel
theorem dX3_permute_12 : decode cX3_permute 12 = .ok (.getfield 9, 3) := by decide +kernel
theorem dX3_permute_15 : decode cX3_permute 15 = .ok (.iload_n 1, 1) := by decide +kernel
theorem dX3_permute_16 : decode cX3_permute 16 = .ok (.iaload, 1) := by decide +kernel
theorem dX3_permute_17 : decode cX3_permute 17 = .ok (.aload_n 0, 1) := by decide +kernel
theorem dX3_permute_18 : decode cX3_permute 18 = .ok (.getfield 9, 3) := by decide +kernel
theorem dX3_permute_21 : decode cX3_permute 21 = .ok (.iload_n 1, 1) := by decide +kernel
theorem dX3_permute_22 : decode cX3_permute 22 = .ok (.iconst 1, 1) := by decide +kernel
theorem dX3_permute_23 : decode cX3_permute 23 = .ok (.iadd, 1) := by decide +kernel
theorem dX3_permute_24 : decode cX3_permute 24 = .ok (.iaload, 1) := by decide +kernel
theorem dX3_permute_25 : decode cX3_permute 25 = .ok (.if_icmp .le 9, 3) := by decide +kernel
theorem dX3_permute_28 : decode cX3_permute 28 = .ok (.iinc 1 (-1), 3) := by decide +kernel
theorem dX3_permute_31 : decode cX3_permute 31 = .ok (.goto (-24), 3) := by decide +kernel
theorem dX3_permute_34 : decode cX3_permute 34 = .ok (.iload_n 1, 1) := by decide +kernel
theorem dX3_permute_35 : decode cX3_permute 35 = .ok (.ifCond .ge 5, 3) := by decide +kernel
theorem dX3_permute_38 : decode cX3_permute 38 = .ok (.iconst 0, 1) := by decide +kernel
theorem dX3_permute_39 : decode cX3_permute 39 = .ok (.ireturn, 1) := by decide +kernel
theorem dX3_permute_40 : decode cX3_permute 40 = .ok (.aload_n 0, 1) := by decide +kernel
theorem dX3_permute_41 : decode cX3_permute 41 = .ok (.getfield 25, 3) := by decide +kernel
theorem dX3_permute_44 : decode cX3_permute 44 = .ok (.iconst 1, 1) := by decide +kernel
theorem dX3_permute_45 : decode cX3_permute 45 = .ok (.isub, 1) := by decide +kernel
theorem dX3_permute_46 : decode cX3_permute 46 = .ok (.istore_n 2, 1) := by decide +kernel
theorem dX3_permute_47 : decode cX3_permute 47 = .ok (.iload_n 2, 1) := by decide +kernel
theorem dX3_permute_48 : decode cX3_permute 48 = .ok (.iload_n 1, 1) := by decide +kernel
theorem dX3_permute_49 : decode cX3_permute 49 = .ok (.if_icmp .le 24, 3) := by decide +kernel
theorem dX3_permute_52 : decode cX3_permute 52 = .ok (.aload_n 0, 1) := by decide +kernel
theorem dX3_permute_53 : decode cX3_permute 53 = .ok (.getfield 9, 3) := by decide +kernel
theorem dX3_permute_56 : decode cX3_permute 56 = .ok (.iload_n 2, 1) := by decide +kernel
theorem dX3_permute_57 : decode cX3_permute 57 = .ok (.iaload, 1) := by decide +kernel
theorem dX3_permute_58 : decode cX3_permute 58 = .ok (.aload_n 0, 1) := by decide +kernel
theorem dX3_permute_59 : decode cX3_permute 59 = .ok (.getfield 9, 3) := by decide +kernel
theorem dX3_permute_62 : decode cX3_permute 62 = .ok (.iload_n 1, 1) := by decide +kernel
theorem dX3_permute_63 : decode cX3_permute 63 = .ok (.iaload, 1) := by decide +kernel
theorem dX3_permute_64 : decode cX3_permute 64 = .ok (.if_icmp .ge 9, 3) := by decide +kernel
theorem dX3_permute_67 : decode cX3_permute 67 = .ok (.iinc 2 (-1), 3) := by decide +kernel
theorem dX3_permute_70 : decode cX3_permute 70 = .ok (.goto (-23), 3) := by decide +kernel
theorem dX3_permute_73 : decode cX3_permute 73 = .ok (.aload_n 0, 1) := by decide +kernel
theorem dX3_permute_74 : decode cX3_permute 74 = .ok (.iload_n 1, 1) := by decide +kernel
theorem dX3_permute_75 : decode cX3_permute 75 = .ok (.iload_n 2, 1) := by decide +kernel
theorem dX3_permute_76 : decode cX3_permute 76 = .ok (.invokevirtual 103, 3) := by decide +kernel
theorem dX3_permute_79 : decode cX3_permute 79 = .ok (.iload_n 1, 1) := by decide +kernel
theorem dX3_permute_80 : decode cX3_permute 80 = .ok (.iconst 1, 1) := by decide +kernel
theorem dX3_permute_81 : decode cX3_permute 81 = .ok (.iadd, 1) := by decide +kernel
theorem dX3_permute_82 : decode cX3_permute 82 = .ok (.istore_n 3, 1) := by decide +kernel
theorem dX3_permute_83 : decode cX3_permute 83 = .ok (.aload_n 0, 1) := by decide +kernel
theorem dX3_permute_84 : decode cX3_permute 84 = .ok (.getfield 25, 3) := by decide +kernel
theorem dX3_permute_87 : decode cX3_permute 87 = .ok (.iconst 1, 1) := by decide +kernel
theorem dX3_permute_88 : decode cX3_permute 88 = .ok (.isub, 1) := by decide +kernel
theorem dX3_permute_89 : decode cX3_permute 89 = .ok (.istore 4, 2) := by decide +kernel
theorem dX3_permute_91 : decode cX3_permute 91 = .ok (.iload_n 3, 1) := by decide +kernel
theorem dX3_permute_92 : decode cX3_permute 92 = .ok (.iload 4, 2) := by decide +kernel
theorem dX3_permute_94 : decode cX3_permute 94 = .ok (.if_icmp .ge 19, 3) := by decide +kernel
theorem dX3_permute_97 : decode cX3_permute 97 = .ok (.aload_n 0, 1) := by decide +kernel
theorem dX3_permute_98 : decode cX3_permute 98 = .ok (.iload_n 3, 1) := by decide +kernel
theorem dX3_permute_99 : decode cX3_permute 99 = .ok (.iload 4, 2) := by decide +kernel
theorem dX3_permute_101 : decode cX3_permute 101 = .ok (.invokevirtual 103, 3) := by decide +kernel
theorem dX3_permute_104 : decode cX3_permute 104 = .ok (.iinc 3 1, 3) := by decide +kernel
theorem dX3_permute_107 : decode cX3_permute 107 = .ok (.iinc 4 (-1), 3) := by decide +kernel
theorem dX3_permute_110 : decode cX3_permute 110 = .ok (.goto (-19), 3) := by decide +kernel
theorem dX3_permute_113 : decode cX3_permute 113 = .ok (.iconst 1, 1) := by decide +kernel
theorem dX3_permute_114 : decode cX3_permute 114 = .ok (.ireturn, 1) := by decide +kernel
theorem dX3_change_0 : decode cX3_change 0 = .ok (.aload_n 0, 1) := by decide +kernel
theorem dX3_change_1 : decode cX3_change 1 = .ok (.getfield 9, 3) := by decide +kernel
theorem dX3_change_4 : decode cX3_change 4 = .ok (.iload_n 1, 1) := by decide +kernel
theorem dX3_change_5 : decode cX3_change 5 = .ok (.iaload, 1) := by decide +kernel
theorem dX3_change_6 : decode cX3_change 6 = .ok (.istore_n 3, 1) := by decide +kernel
theorem dX3_change_7 : decode cX3_change 7 = .ok (.aload_n 0, 1) := by decide +kernel
theorem dX3_change_8 : decode cX3_change 8 = .ok (.getfield 9, 3) := by decide +kernel
theorem dX3_change_11 : decode cX3_change 11 = .ok (.iload_n 1, 1) := by decide +kernel
theorem dX3_change_12 : decode cX3_change 12 = .ok (.aload_n 0, 1) := by decide +kernel
theorem dX3_change_13 : decode cX3_change 13 = .ok (.getfield 9, 3) := by decide +kernel
theorem dX3_change_16 : decode cX3_change 16 = .ok (.iload_n 2, 1) := by decide +kernel
theorem dX3_change_17 : decode cX3_change 17 = .ok (.iaload, 1) := by decide +kernel
theorem dX3_change_18 : decode cX3_change 18 = .ok (.iastore, 1) := by decide +kernel
theorem dX3_change_19 : decode cX3_change 19 = .ok (.aload_n 0, 1) := by decide +kernel
theorem dX3_change_20 : decode cX3_change 20 = .ok (.getfield 9, 3) := by decide +kernel
theorem dX3_change_23 : decode cX3_change 23 = .ok (.iload_n 2, 1) := by decide +kernel
theorem dX3_change_24 : decode cX3_change 24 = .ok (.iload_n 3, 1) := by decide +kernel
theorem dX3_change_25 : decode cX3_change 25 = .ok (.iastore, 1) := by decide +kernel
theorem dX3_change_26 : decode cX3_change 26 = .ok (.return_, 1) := by decide +kernel
theorem dX4_init_0 : decode cX4_init 0 = .ok (.aload_n 0, 1) := by decide +kernel
theorem dX4_init_1 : decode cX4_init 1 = .ok (.invokespecial 3, 3) := by decide +kernel
theorem dX4_init_4 : decode cX4_init 4 = .ok (.aload_n 0, 1) := by decide +kernel
theorem dX4_init_5 : decode cX4_init 5 = .ok (.new 9, 3) := by decide +kernel
theorem dX4_init_8 : decode cX4_init 8 = .ok (.dup, 1) := by decide +kernel
theorem dX4_init_9 : decode cX4_init 9 = .ok (.invokespecial 11, 3) := by decide +kernel
theorem dX4_init_12 : decode cX4_init 12 = .ok (.putfield 12, 3) := by decide +kernel
theorem dX4_init_15 : decode cX4_init 15 = .ok (.aload_n 0, 1) := by decide +kernel
theorem dX4_init_16 : decode cX4_init 16 = .ok (.sipush 216, 3) := by decide +kernel
theorem dX4_init_19 : decode cX4_init 19 = .ok (.newarray .int, 2) := by decide +kernel
theorem dX4_init_21 : decode cX4_init 21 = .ok (.putfield 18, 3) := by decide +kernel
theorem dX4_init_24 : decode cX4_init 24 = .ok (.aload_n 0, 1) := by decide +kernel
theorem dX4_init_25 : decode cX4_init 25 = .ok (.aload_n 1, 1) := by decide +kernel
theorem dX4_init_26 : decode cX4_init 26 = .ok (.putfield 22, 3) := by decide +kernel
theorem dX4_init_29 : decode cX4_init 29 = .ok (.return_, 1) := by decide +kernel
theorem dX4_think_0 : decode cX4_think 0 = .ok (.aload_n 0, 1) := by decide +kernel
theorem dX4_think_1 : decode cX4_think 1 = .ok (.getfield 12, 3) := by decide +kernel
theorem dX4_think_4 : decode cX4_think 4 = .ok (.aload_n 1, 1) := by decide +kernel
theorem dX4_think_5 : decode cX4_think 5 = .ok (.invokevirtual 26, 3) := by decide +kernel
theorem dX4_think_8 : decode cX4_think 8 = .ok (.return_, 1) := by decide +kernel
theorem dX4_seekBest_0 : decode cX4_seekBest 0 = .ok (.aload_n 0, 1) := by decide +kernel
theorem dX4_seekBest_1 : decode cX4_seekBest 1 = .ok (.getfield 12, 3) := by decide +kernel
theorem dX4_seekBest_4 : decode cX4_seekBest 4 = .ok (.getfield 30, 3) := by decide +kernel
theorem dX4_seekBest_7 : decode cX4_seekBest 7 = .ok (.iload_n 1, 1) := by decide +kernel
theorem dX4_seekBest_8 : decode cX4_seekBest 8 = .ok (.aaload, 1) := by decide +kernel
theorem dX4_seekBest_9 : decode cX4_seekBest 9 = .ok (.astore_n 2, 1) := by decide +kernel
theorem dX4_seekBest_10 : decode cX4_seekBest 10 = .ok (.aload_n 2, 1) := by decide +kernel
theorem dX4_seekBest_11 : decode cX4_seekBest 11 = .ok (.getfield 34, 3) := by decide +kernel
theorem dX4_seekBest_14 : decode cX4_seekBest 14 = .ok (.istore_n 3, 1) := by decide +kernel
theorem dX4_seekBest_15 : decode cX4_seekBest 15 = .ok (.aload_n 2, 1) := by decide +kernel
theorem dX4_seekBest_16 : decode cX4_seekBest 16 = .ok (.getfield 40, 3) := by decide +kernel
theorem dX4_seekBest_19 : decode cX4_seekBest 19 = .ok (.istore 4, 2) := by decide +kernel
theorem dX4_seekBest_21 : decode cX4_seekBest 21 = .ok (.aload_n 0, 1) := by decide +kernel
theorem dX4_seekBest_22 : decode cX4_seekBest 22 = .ok (.iload_n 1, 1) := by decide +kernel
theorem dX4_seekBest_23 : decode cX4_seekBest 23 = .ok (.invokevirtual 43, 3) := by decide +kernel
theorem dX4_seekBest_26 : decode cX4_seekBest 26 = .ok (.aload_n 0, 1) := by decide +kernel
theorem dX4_seekBest_27 : decode cX4_seekBest 27 = .ok (.ldc 47, 2) := by decide +kernel
theorem dX4_seekBest_29 : decode cX4_seekBest 29 = .ok (.putfield 48, 3) := by decide +kernel
theorem dX4_seekBest_32 : decode cX4_seekBest 32 = .ok (.iconst 0, 1) := by decide +kernel
theorem dX4_seekBest_33 : decode cX4_seekBest 33 = .ok (.istore 5, 2) := by decide +kernel
theorem dX4_seekBest_35 : decode cX4_seekBest 35 = .ok (.iload 5, 2) := by decide +kernel
theorem dX4_seekBest_37 : decode cX4_seekBest 37 = .ok (.aload_n 0, 1) := by decide +kernel
theorem dX4_seekBest_38 : decode cX4_seekBest 38 = .ok (.getfield 12, 3) := by decide +kernel
theorem dX4_seekBest_41 : decode cX4_seekBest 41 = .ok (.getfield 51, 3) := by decide +kernel
theorem dX4_seekBest_44 : decode cX4_seekBest 44 = .ok (.if_icmp .ge 130, 3) := by decide +kernel
theorem dX4_seekBest_47 : decode cX4_seekBest 47 = .ok (.aload_n 0, 1) := by decide +kernel
theorem dX4_seekBest_48 : decode cX4_seekBest 48 = .ok (.getfield 48, 3) := by decide +kernel
theorem dX4_seekBest_51 : decode cX4_seekBest 51 = .ok (.ifCond .le 123, 3) := by decide +kernel
theorem dX4_seekBest_54 : decode cX4_seekBest 54 = .ok (.aload_n 2, 1) := by decide +kernel
theorem dX4_seekBest_55 : decode cX4_seekBest 55 = .ok (.iload 5, 2) := by decide +kernel
theorem dX4_seekBest_57 : decode cX4_seekBest 57 = .ok (.putfield 34, 3) := by decide +kernel
theorem dX4_seekBest_60 : decode cX4_seekBest 60 = .ok (.iconst 0, 1) := by decide +kernel
theorem dX4_seekBest_61 : decode cX4_seekBest 61 = .ok (.istore 6, 2) := by decide +kernel
theorem dX4_seekBest_63 : decode cX4_seekBest 63 = .ok (.iload 6, 2) := by decide +kernel
theorem dX4_seekBest_65 : decode cX4_seekBest 65 = .ok (.bipush 24, 2) := by decide +kernel
theorem dX4_seekBest_67 : decode cX4_seekBest 67 = .ok (.if_icmp .ge 101, 3) := by decide +kernel
theorem dX4_seekBest_70 : decode cX4_seekBest 70 = .ok (.aload_n 0, 1) := by decide +kernel
theorem dX4_seekBest_71 : decode cX4_seekBest 71 = .ok (.getfield 48, 3) := by decide +kernel
theorem dX4_seekBest_74 : decode cX4_seekBest 74 = .ok (.ifCond .le 94, 3) := by decide +kernel
theorem dX4_seekBest_77 : decode cX4_seekBest 77 = .ok (.aload_n 2, 1) := by decide +kernel
theorem dX4_seekBest_78 : decode cX4_seekBest 78 = .ok (.iload 6, 2) := by decide +kernel
theorem dX4_seekBest_80 : decode cX4_seekBest 80 = .ok (.putfield 40, 3) := by decide +kernel
theorem dX4_seekBest_83 : decode cX4_seekBest 83 = .ok (.iload 6, 2) := by decide +kernel
theorem dX4_seekBest_85 : decode cX4_seekBest 85 = .ok (.ifCond .le 14, 3) := by decide +kernel
theorem dX4_seekBest_88 : decode cX4_seekBest 88 = .ok (.aload_n 0, 1) := by decide +kernel
theorem dX4_seekBest_89 : decode cX4_seekBest 89 = .ok (.iload_n 1, 1) := by decide +kernel
theorem dX4_seekBest_90 : decode cX4_seekBest 90 = .ok (.invokevirtual 54, 3) := by decide +kernel
theorem dX4_seekBest_93 : decode cX4_seekBest 93 = .ok (.ifCond .ne 6, 3) := by decide +kernel
theorem dX4_seekBest_96 : decode cX4_seekBest 96 = .ok (.goto 66, 3) := by decide +kernel
theorem dX4_seekBest_99 : decode cX4_seekBest 99 = .ok (.aload_n 0, 1) := by decide +kernel
theorem dX4_seekBest_100 : decode cX4_seekBest 100 = .ok (.getfield 22, 3) := by decide +kernel
theorem dX4_seekBest_103 : decode cX4_seekBest 103 = .ok (.aload_n 0, 1) := by decide +kernel
theorem dX4_seekBest_104 : decode cX4_seekBest 104 = .ok (.getfield 12, 3) := by decide +kernel
theorem dX4_seekBest_107 : decode cX4_seekBest 107 = .ok (.invokevirtual 58, 3) := by decide +kernel
theorem dX4_seekBest_110 : decode cX4_seekBest 110 = .ok (.pop, 1) := by decide +kernel
theorem dX4_seekBest_111 : decode cX4_seekBest 111 = .ok (.aload_n 0, 1) := by decide +kernel
theorem dX4_seekBest_112 : decode cX4_seekBest 112 = .ok (.getfield 22, 3) := by decide +kernel
theorem dX4_seekBest_115 : decode cX4_seekBest 115 = .ok (.getfield 64, 3) := by decide +kernel
theorem dX4_seekBest_118 : decode cX4_seekBest 118 = .ok (.aload_n 2, 1) := by decide +kernel
theorem dX4_seekBest_119 : decode cX4_seekBest 119 = .ok (.getfield 67, 3) := by decide +kernel
theorem dX4_seekBest_122 : decode cX4_seekBest 122 = .ok (.iaload, 1) := by decide +kernel
theorem dX4_seekBest_123 : decode cX4_seekBest 123 = .ok (.aload_n 0, 1) := by decide +kernel
theorem dX4_seekBest_124 : decode cX4_seekBest 124 = .ok (.getfield 12, 3) := by decide +kernel
theorem dX4_seekBest_127 : decode cX4_seekBest 127 = .ok (.getfield 70, 3) := by decide +kernel
theorem dX4_seekBest_130 : decode cX4_seekBest 130 = .ok (.iconst 4, 1) := by decide +kernel
theorem dX4_seekBest_131 : decode cX4_seekBest 131 = .ok (.iaload, 1) := by decide +kernel
theorem dX4_seekBest_132 : decode cX4_seekBest 132 = .ok (.imul, 1) := by decide +kernel
theorem dX4_seekBest_133 : decode cX4_seekBest 133 = .ok (.istore 7, 2) := by decide +kernel
theorem dX4_seekBest_135 : decode cX4_seekBest 135 = .ok (.iload 7, 2) := by decide +kernel
theorem dX4_seekBest_137 : decode cX4_seekBest 137 = .ok (.aload_n 0, 1) := by decide +kernel
theorem dX4_seekBest_138 : decode cX4_seekBest 138 = .ok (.getfield 48, 3) := by decide +kernel
theorem dX4_seekBest_141 : decode cX4_seekBest 141 = .ok (.if_icmp .ge 21, 3) := by decide +kernel
theorem dX4_seekBest_144 : decode cX4_seekBest 144 = .ok (.aload_n 0, 1) := by decide +kernel
theorem dX4_seekBest_145 : decode cX4_seekBest 145 = .ok (.iload 7, 2) := by decide +kernel
theorem dX4_seekBest_147 : decode cX4_seekBest 147 = .ok (.putfield 48, 3) := by decide +kernel
theorem dX4_seekBest_150 : decode cX4_seekBest 150 = .ok (.aload_n 0, 1) := by decide +kernel
theorem dX4_seekBest_151 : decode cX4_seekBest 151 = .ok (.iload 5, 2) := by decide +kernel
theorem dX4_seekBest_153 : decode cX4_seekBest 153 = .ok (.putfield 73, 3) := by decide +kernel
theorem dX4_seekBest_156 : decode cX4_seekBest 156 = .ok (.aload_n 0, 1) := by decide +kernel
theorem dX4_seekBest_157 : decode cX4_seekBest 157 = .ok (.iload 6, 2) := by decide +kernel
theorem dX4_seekBest_159 : decode cX4_seekBest 159 = .ok (.putfield 74, 3) := by decide +kernel
theorem dX4_seekBest_162 : decode cX4_seekBest 162 = .ok (.iinc 6 1, 3) := by decide +kernel
theorem dX4_seekBest_165 : decode cX4_seekBest 165 = .ok (.goto (-102), 3) := by decide +kernel
theorem dX4_seekBest_168 : decode cX4_seekBest 168 = .ok (.iinc 5 1, 3) := by decide +kernel
theorem dX4_seekBest_171 : decode cX4_seekBest 171 = .ok (.goto (-136), 3) := by decide +kernel
theorem dX4_seekBest_174 : decode cX4_seekBest 174 = .ok (.aload_n 2, 1) := by decide +kernel
theorem dX4_seekBest_175 : decode cX4_seekBest 175 = .ok (.iload_n 3, 1) := by decide +kernel
theorem dX4_seekBest_176 : decode cX4_seekBest 176 = .ok (.putfield 34, 3) := by decide +kernel
theorem dX4_seekBest_179 : decode cX4_seekBest 179 = .ok (.aload_n 2, 1) := by decide +kernel
theorem dX4_seekBest_180 : decode cX4_seekBest 180 = .ok (.iload 4, 2) := by decide +kernel
theorem dX4_seekBest_182 : decode cX4_seekBest 182 = .ok (.putfield 40, 3) := by decide +kernel
theorem dX4_seekBest_185 : decode cX4_seekBest 185 = .ok (.return_, 1) := by decide +kernel
theorem dX4_countOthers_0 : decode cX4_countOthers 0 = .ok (.aload_n 0, 1) := by decide +kernel
theorem dX4_countOthers_1 : decode cX4_countOthers 1 = .ok (.getfield 18, 3) := by decide +kernel
theorem dX4_countOthers_4 : decode cX4_countOthers 4 = .ok (.iconst 0, 1) := by decide +kernel
theorem dX4_countOthers_5 : decode cX4_countOthers 5 = .ok (.invokestatic 75, 3) := by decide +kernel
theorem dX4_countOthers_8 : decode cX4_countOthers 8 = .ok (.iconst 0, 1) := by decide +kernel
theorem dX4_countOthers_9 : decode cX4_countOthers 9 = .ok (.istore_n 2, 1) := by decide +kernel
theorem dX4_countOthers_10 : decode cX4_countOthers 10 = .ok (.iload_n 2, 1) := by decide +kernel
theorem dX4_countOthers_11 : decode cX4_countOthers 11 = .ok (.aload_n 0, 1) := by decide +kernel
theorem dX4_countOthers_12 : decode cX4_countOthers 12 = .ok (.getfield 12, 3) := by decide +kernel
theorem dX4_countOthers_15 : decode cX4_countOthers 15 = .ok (.getfield 81, 3) := by decide +kernel
theorem dX4_countOthers_18 : decode cX4_countOthers 18 = .ok (.if_icmp .ge 38, 3) := by decide +kernel
theorem dX4_countOthers_21 : decode cX4_countOthers 21 = .ok (.aload_n 0, 1) := by decide +kernel
theorem dX4_countOthers_22 : decode cX4_countOthers 22 = .ok (.getfield 12, 3) := by decide +kernel
theorem dX4_countOthers_25 : decode cX4_countOthers 25 = .ok (.iload_n 2, 1) := by decide +kernel
theorem dX4_countOthers_26 : decode cX4_countOthers 26 = .ok (.invokevirtual 84, 3) := by decide +kernel
theorem dX4_countOthers_29 : decode cX4_countOthers 29 = .ok (.istore_n 3, 1) := by decide +kernel
theorem dX4_countOthers_30 : decode cX4_countOthers 30 = .ok (.iload_n 2, 1) := by decide +kernel
theorem dX4_countOthers_31 : decode cX4_countOthers 31 = .ok (.iload_n 1, 1) := by decide +kernel
theorem dX4_countOthers_32 : decode cX4_countOthers 32 = .ok (.if_icmp .eq 18, 3) := by decide +kernel
theorem dX4_countOthers_35 : decode cX4_countOthers 35 = .ok (.iload_n 3, 1) := by decide +kernel
theorem dX4_countOthers_36 : decode cX4_countOthers 36 = .ok (.iconst (-1), 1) := by decide +kernel
theorem dX4_countOthers_37 : decode cX4_countOthers 37 = .ok (.if_icmp .eq 13, 3) := by decide +kernel
theorem dX4_countOthers_40 : decode cX4_countOthers 40 = .ok (.aload_n 0, 1) := by decide +kernel
theorem dX4_countOthers_41 : decode cX4_countOthers 41 = .ok (.getfield 18, 3) := by decide +kernel
theorem dX4_countOthers_44 : decode cX4_countOthers 44 = .ok (.iload_n 3, 1) := by decide +kernel
theorem dX4_countOthers_45 : decode cX4_countOthers 45 = .ok (.dup2, 1) := by decide +kernel
theorem dX4_countOthers_46 : decode cX4_countOthers 46 = .ok (.iaload, 1) := by decide +kernel
theorem dX4_countOthers_47 : decode cX4_countOthers 47 = .ok (.iconst 1, 1) := by decide +kernel
theorem dX4_countOthers_48 : decode cX4_countOthers 48 = .ok (.iadd, 1) := by decide +kernel
theorem dX4_countOthers_49 : decode cX4_countOthers 49 = .ok (.iastore, 1) := by decide +kernel
theorem dX4_countOthers_50 : decode cX4_countOthers 50 = .ok (.iinc 2 1, 3) := by decide +kernel
theorem dX4_countOthers_53 : decode cX4_countOthers 53 = .ok (.goto (-43), 3) := by decide +kernel
theorem dX4_countOthers_56 : decode cX4_countOthers 56 = .ok (.return_, 1) := by decide +kernel
theorem dX4_differs_0 : decode cX4_differs 0 = .ok (.aload_n 0, 1) := by decide +kernel
theorem dX4_differs_1 : decode cX4_differs 1 = .ok (.getfield 12, 3) := by decide +kernel
theorem dX4_differs_4 : decode cX4_differs 4 = .ok (.iload_n 1, 1) := by decide +kernel
theorem dX4_differs_5 : decode cX4_differs 5 = .ok (.invokevirtual 84, 3) := by decide +kernel
theorem dX4_differs_8 : decode cX4_differs 8 = .ok (.istore_n 2, 1) := by decide +kernel
theorem dX4_differs_9 : decode cX4_differs 9 = .ok (.iload_n 2, 1) := by decide +kernel
theorem dX4_differs_10 : decode cX4_differs 10 = .ok (.iconst 1, 1) := by decide +kernel
theorem dX4_differs_11 : decode cX4_differs 11 = .ok (.if_icmp .lt 30, 3) := by decide +kernel
theorem dX4_differs_14 : decode cX4_differs 14 = .ok (.iload_n 2, 1) := by decide +kernel
theorem dX4_differs_15 : decode cX4_differs 15 = .ok (.bipush 24, 2) := by decide +kernel
theorem dX4_differs_17 : decode cX4_differs 17 = .ok (.irem, 1) := by decide +kernel
theorem dX4_differs_18 : decode cX4_differs 18 = .ok (.ifCond .eq 23, 3) := by decide +kernel
theorem dX4_differs_21 : decode cX4_differs 21 = .ok (.aload_n 0, 1) := by decide +kernel
theorem dX4_differs_22 : decode cX4_differs 22 = .ok (.getfield 18, 3) := by decide +kernel
theorem dX4_differs_25 : decode cX4_differs 25 = .ok (.iload_n 2, 1) := by decide +kernel
theorem dX4_differs_26 : decode cX4_differs 26 = .ok (.iaload, 1) := by decide +kernel
theorem dX4_differs_27 : decode cX4_differs 27 = .ok (.ifCond .gt 14, 3) := by decide +kernel
theorem dX4_differs_30 : decode cX4_differs 30 = .ok (.aload_n 0, 1) := by decide +kernel
theorem dX4_differs_31 : decode cX4_differs 31 = .ok (.getfield 18, 3) := by decide +kernel
theorem dX4_differs_34 : decode cX4_differs 34 = .ok (.iload_n 2, 1) := by decide +kernel
theorem dX4_differs_35 : decode cX4_differs 35 = .ok (.iconst 1, 1) := by decide +kernel
theorem dX4_differs_36 : decode cX4_differs 36 = .ok (.isub, 1) := by decide +kernel
theorem dX4_differs_37 : decode cX4_differs 37 = .ok (.iaload, 1) := by decide +kernel
theorem dX4_differs_38 : decode cX4_differs 38 = .ok (.ifCond .le 7, 3) := by decide +kernel
theorem dX4_differs_41 : decode cX4_differs 41 = .ok (.iconst 1, 1) := by decide +kernel
theorem dX4_differs_42 : decode cX4_differs 42 = .ok (.goto 4, 3) := by decide +kernel
theorem dX4_differs_45 : decode cX4_differs 45 = .ok (.iconst 0, 1) := by decide +kernel
theorem dX4_differs_46 : decode cX4_differs 46 = .ok (.ireturn, 1) := by decide +kernel
theorem dX4_seekSplit_0 : decode cX4_seekSplit 0 = .ok (.aload_n 0, 1) := by decide +kernel
theorem dX4_seekSplit_1 : decode cX4_seekSplit 1 = .ok (.getfield 12, 3) := by decide +kernel
theorem dX4_seekSplit_4 : decode cX4_seekSplit 4 = .ok (.getfield 30, 3) := by decide +kernel
theorem dX4_seekSplit_7 : decode cX4_seekSplit 7 = .ok (.iload_n 1, 1) := by decide +kernel
theorem dX4_seekSplit_8 : decode cX4_seekSplit 8 = .ok (.aaload, 1) := by decide +kernel
theorem dX4_seekSplit_9 : decode cX4_seekSplit 9 = .ok (.astore_n 2, 1) := by decide +kernel
theorem dX4_seekSplit_10 : decode cX4_seekSplit 10 = .ok (.aload_n 0, 1) := by decide +kernel
theorem dX4_seekSplit_11 : decode cX4_seekSplit 11 = .ok (.getfield 12, 3) := by decide +kernel
theorem dX4_seekSplit_14 : decode cX4_seekSplit 14 = .ok (.getfield 81, 3) := by decide +kernel
theorem dX4_seekSplit_17 : decode cX4_seekSplit 17 = .ok (.istore_n 3, 1) := by decide +kernel
theorem dX4_seekSplit_18 : decode cX4_seekSplit 18 = .ok (.aload_n 2, 1) := by decide +kernel
theorem dX4_seekSplit_19 : decode cX4_seekSplit 19 = .ok (.getfield 88, 3) := by decide +kernel
theorem dX4_seekSplit_22 : decode cX4_seekSplit 22 = .ok (.istore 4, 2) := by decide +kernel
theorem dX4_seekSplit_24 : decode cX4_seekSplit 24 = .ok (.aload_n 0, 1) := by decide +kernel
theorem dX4_seekSplit_25 : decode cX4_seekSplit 25 = .ok (.getfield 12, 3) := by decide +kernel
theorem dX4_seekSplit_28 : decode cX4_seekSplit 28 = .ok (.getfield 30, 3) := by decide +kernel
theorem dX4_seekSplit_31 : decode cX4_seekSplit 31 = .ok (.iload_n 3, 1) := by decide +kernel
theorem dX4_seekSplit_32 : decode cX4_seekSplit 32 = .ok (.aaload, 1) := by decide +kernel
theorem dX4_seekSplit_33 : decode cX4_seekSplit 33 = .ok (.aload_n 2, 1) := by decide +kernel
theorem dX4_seekSplit_34 : decode cX4_seekSplit 34 = .ok (.invokevirtual 91, 3) := by decide +kernel
theorem dX4_seekSplit_37 : decode cX4_seekSplit 37 = .ok (.aload_n 0, 1) := by decide +kernel
theorem dX4_seekSplit_38 : decode cX4_seekSplit 38 = .ok (.getfield 12, 3) := by decide +kernel
theorem dX4_seekSplit_41 : decode cX4_seekSplit 41 = .ok (.iload_n 3, 1) := by decide +kernel
theorem dX4_seekSplit_42 : decode cX4_seekSplit 42 = .ok (.iconst 1, 1) := by decide +kernel
theorem dX4_seekSplit_43 : decode cX4_seekSplit 43 = .ok (.iadd, 1) := by decide +kernel
theorem dX4_seekSplit_44 : decode cX4_seekSplit 44 = .ok (.putfield 81, 3) := by decide +kernel
theorem dX4_seekSplit_47 : decode cX4_seekSplit 47 = .ok (.aload_n 2, 1) := by decide +kernel
theorem dX4_seekSplit_48 : decode cX4_seekSplit 48 = .ok (.iconst 0, 1) := by decide +kernel
theorem dX4_seekSplit_49 : decode cX4_seekSplit 49 = .ok (.putfield 94, 3) := by decide +kernel
theorem dX4_seekSplit_52 : decode cX4_seekSplit 52 = .ok (.aload_n 0, 1) := by decide +kernel
theorem dX4_seekSplit_53 : decode cX4_seekSplit 53 = .ok (.ldc 47, 2) := by decide +kernel
theorem dX4_seekSplit_55 : decode cX4_seekSplit 55 = .ok (.putfield 97, 3) := by decide +kernel
theorem dX4_seekSplit_58 : decode cX4_seekSplit 58 = .ok (.iconst 1, 1) := by decide +kernel
theorem dX4_seekSplit_59 : decode cX4_seekSplit 59 = .ok (.istore 5, 2) := by decide +kernel
theorem dX4_seekSplit_61 : decode cX4_seekSplit 61 = .ok (.iload 5, 2) := by decide +kernel
theorem dX4_seekSplit_63 : decode cX4_seekSplit 63 = .ok (.iload 4, 2) := by decide +kernel
theorem dX4_seekSplit_65 : decode cX4_seekSplit 65 = .ok (.if_icmp .ge 85, 3) := by decide +kernel
theorem dX4_seekSplit_68 : decode cX4_seekSplit 68 = .ok (.aload_n 0, 1) := by decide +kernel
theorem dX4_seekSplit_69 : decode cX4_seekSplit 69 = .ok (.getfield 97, 3) := by decide +kernel
theorem dX4_seekSplit_72 : decode cX4_seekSplit 72 = .ok (.ifCond .le 78, 3) := by decide +kernel
theorem dX4_seekSplit_75 : decode cX4_seekSplit 75 = .ok (.aload_n 2, 1) := by decide +kernel
theorem dX4_seekSplit_76 : decode cX4_seekSplit 76 = .ok (.iload 5, 2) := by decide +kernel
theorem dX4_seekSplit_78 : decode cX4_seekSplit 78 = .ok (.putfield 88, 3) := by decide +kernel
theorem dX4_seekSplit_81 : decode cX4_seekSplit 81 = .ok (.aload_n 0, 1) := by decide +kernel
theorem dX4_seekSplit_82 : decode cX4_seekSplit 82 = .ok (.getfield 12, 3) := by decide +kernel
theorem dX4_seekSplit_85 : decode cX4_seekSplit 85 = .ok (.getfield 30, 3) := by decide +kernel
theorem dX4_seekSplit_88 : decode cX4_seekSplit 88 = .ok (.iload_n 3, 1) := by decide +kernel
theorem dX4_seekSplit_89 : decode cX4_seekSplit 89 = .ok (.aaload, 1) := by decide +kernel
theorem dX4_seekSplit_90 : decode cX4_seekSplit 90 = .ok (.iload 4, 2) := by decide +kernel
theorem dX4_seekSplit_92 : decode cX4_seekSplit 92 = .ok (.iload 5, 2) := by decide +kernel
theorem dX4_seekSplit_94 : decode cX4_seekSplit 94 = .ok (.isub, 1) := by decide +kernel
theorem dX4_seekSplit_95 : decode cX4_seekSplit 95 = .ok (.putfield 88, 3) := by decide +kernel
theorem dX4_seekSplit_98 : decode cX4_seekSplit 98 = .ok (.aload_n 0, 1) := by decide +kernel
theorem dX4_seekSplit_99 : decode cX4_seekSplit 99 = .ok (.iload_n 3, 1) := by decide +kernel
theorem dX4_seekSplit_100 : decode cX4_seekSplit 100 = .ok (.invokevirtual 100, 3) := by decide +kernel
theorem dX4_seekSplit_103 : decode cX4_seekSplit 103 = .ok (.aload_n 0, 1) := by decide +kernel
theorem dX4_seekSplit_104 : decode cX4_seekSplit 104 = .ok (.getfield 48, 3) := by decide +kernel
theorem dX4_seekSplit_107 : decode cX4_seekSplit 107 = .ok (.aload_n 0, 1) := by decide +kernel
theorem dX4_seekSplit_108 : decode cX4_seekSplit 108 = .ok (.getfield 97, 3) := by decide +kernel
theorem dX4_seekSplit_111 : decode cX4_seekSplit 111 = .ok (.if_icmp .ge 33, 3) := by decide +kernel
theorem dX4_seekSplit_114 : decode cX4_seekSplit 114 = .ok (.aload_n 0, 1) := by decide +kernel
theorem dX4_seekSplit_115 : decode cX4_seekSplit 115 = .ok (.aload_n 0, 1) := by decide +kernel
theorem dX4_seekSplit_116 : decode cX4_seekSplit 116 = .ok (.getfield 48, 3) := by decide +kernel
theorem dX4_seekSplit_119 : decode cX4_seekSplit 119 = .ok (.putfield 97, 3) := by decide +kernel
theorem dX4_seekSplit_122 : decode cX4_seekSplit 122 = .ok (.aload_n 0, 1) := by decide +kernel
theorem dX4_seekSplit_123 : decode cX4_seekSplit 123 = .ok (.iload 5, 2) := by decide +kernel
theorem dX4_seekSplit_125 : decode cX4_seekSplit 125 = .ok (.putfield 103, 3) := by decide +kernel
theorem dX4_seekSplit_128 : decode cX4_seekSplit 128 = .ok (.aload_n 0, 1) := by decide +kernel
theorem dX4_seekSplit_129 : decode cX4_seekSplit 129 = .ok (.aload_n 0, 1) := by decide +kernel
theorem dX4_seekSplit_130 : decode cX4_seekSplit 130 = .ok (.getfield 73, 3) := by decide +kernel
theorem dX4_seekSplit_133 : decode cX4_seekSplit 133 = .ok (.putfield 106, 3) := by decide +kernel
theorem dX4_seekSplit_136 : decode cX4_seekSplit 136 = .ok (.aload_n 0, 1) := by decide +kernel
theorem dX4_seekSplit_137 : decode cX4_seekSplit 137 = .ok (.aload_n 0, 1) := by decide +kernel
theorem dX4_seekSplit_138 : decode cX4_seekSplit 138 = .ok (.getfield 74, 3) := by decide +kernel
theorem dX4_seekSplit_141 : decode cX4_seekSplit 141 = .ok (.putfield 109, 3) := by decide +kernel
theorem dX4_seekSplit_144 : decode cX4_seekSplit 144 = .ok (.iinc 5 1, 3) := by decide +kernel
theorem dX4_seekSplit_147 : decode cX4_seekSplit 147 = .ok (.goto (-86), 3) := by decide +kernel
theorem dX4_seekSplit_150 : decode cX4_seekSplit 150 = .ok (.return_, 1) := by decide +kernel
theorem dX4_restless_0 : decode cX4_restless 0 = .ok (.iconst 0, 1) := by decide +kernel
theorem dX4_restless_1 : decode cX4_restless 1 = .ok (.istore_n 1, 1) := by decide +kernel
theorem dX4_restless_2 : decode cX4_restless 2 = .ok (.iload_n 1, 1) := by decide +kernel
theorem dX4_restless_3 : decode cX4_restless 3 = .ok (.aload_n 0, 1) := by decide +kernel
theorem dX4_restless_4 : decode cX4_restless 4 = .ok (.getfield 12, 3) := by decide +kernel
theorem dX4_restless_7 : decode cX4_restless 7 = .ok (.getfield 81, 3) := by decide +kernel
theorem dX4_restless_10 : decode cX4_restless 10 = .ok (.if_icmp .ge 52, 3) := by decide +kernel
theorem dX4_restless_13 : decode cX4_restless 13 = .ok (.aload_n 0, 1) := by decide +kernel
theorem dX4_restless_14 : decode cX4_restless 14 = .ok (.getfield 22, 3) := by decide +kernel
theorem dX4_restless_17 : decode cX4_restless 17 = .ok (.aload_n 0, 1) := by decide +kernel
theorem dX4_restless_18 : decode cX4_restless 18 = .ok (.getfield 12, 3) := by decide +kernel
theorem dX4_restless_21 : decode cX4_restless 21 = .ok (.aload_n 0, 1) := by decide +kernel
theorem dX4_restless_22 : decode cX4_restless 22 = .ok (.getfield 12, 3) := by decide +kernel
theorem dX4_restless_25 : decode cX4_restless 25 = .ok (.getfield 30, 3) := by decide +kernel
theorem dX4_restless_28 : decode cX4_restless 28 = .ok (.iload_n 1, 1) := by decide +kernel
theorem dX4_restless_29 : decode cX4_restless 29 = .ok (.aaload, 1) := by decide +kernel
theorem dX4_restless_30 : decode cX4_restless 30 = .ok (.getfield 67, 3) := by decide +kernel
theorem dX4_restless_33 : decode cX4_restless 33 = .ok (.invokevirtual 112, 3) := by decide +kernel
theorem dX4_restless_36 : decode cX4_restless 36 = .ok (.istore_n 2, 1) := by decide +kernel
theorem dX4_restless_37 : decode cX4_restless 37 = .ok (.iload_n 2, 1) := by decide +kernel
theorem dX4_restless_38 : decode cX4_restless 38 = .ok (.ifCond .le 18, 3) := by decide +kernel
theorem dX4_restless_41 : decode cX4_restless 41 = .ok (.aload_n 0, 1) := by decide +kernel
theorem dX4_restless_42 : decode cX4_restless 42 = .ok (.iload_n 1, 1) := by decide +kernel
theorem dX4_restless_43 : decode cX4_restless 43 = .ok (.invokevirtual 100, 3) := by decide +kernel
theorem dX4_restless_46 : decode cX4_restless 46 = .ok (.aload_n 0, 1) := by decide +kernel
theorem dX4_restless_47 : decode cX4_restless 47 = .ok (.getfield 48, 3) := by decide +kernel
theorem dX4_restless_50 : decode cX4_restless 50 = .ok (.iload_n 2, 1) := by decide +kernel
theorem dX4_restless_51 : decode cX4_restless 51 = .ok (.if_icmp .ge 5, 3) := by decide +kernel
theorem dX4_restless_54 : decode cX4_restless 54 = .ok (.iload_n 1, 1) := by decide +kernel
theorem dX4_restless_55 : decode cX4_restless 55 = .ok (.ireturn, 1) := by decide +kernel
theorem dX4_restless_56 : decode cX4_restless 56 = .ok (.iinc 1 1, 3) := by decide +kernel
theorem dX4_restless_59 : decode cX4_restless 59 = .ok (.goto (-57), 3) := by decide +kernel
theorem dX4_restless_62 : decode cX4_restless 62 = .ok (.iconst (-1), 1) := by decide +kernel
theorem dX4_restless_63 : decode cX4_restless 63 = .ok (.ireturn, 1) := by decide +kernel
theorem dX4_settle_0 : decode cX4_settle 0 = .ok (.iconst 0, 1) := by decide +kernel
theorem dX4_settle_1 : decode cX4_settle 1 = .ok (.istore_n 2, 1) := by decide +kernel
theorem dX4_settle_2 : decode cX4_settle 2 = .ok (.iload_n 2, 1) := by decide +kernel
theorem dX4_settle_3 : decode cX4_settle 3 = .ok (.iload_n 1, 1) := by decide +kernel
theorem dX4_settle_4 : decode cX4_settle 4 = .ok (.if_icmp .gt 58, 3) := by decide +kernel
theorem dX4_settle_7 : decode cX4_settle 7 = .ok (.aload_n 0, 1) := by decide +kernel
theorem dX4_settle_8 : decode cX4_settle 8 = .ok (.invokevirtual 116, 3) := by decide +kernel
theorem dX4_settle_11 : decode cX4_settle 11 = .ok (.istore_n 3, 1) := by decide +kernel
theorem dX4_settle_12 : decode cX4_settle 12 = .ok (.iload_n 3, 1) := by decide +kernel
theorem dX4_settle_13 : decode cX4_settle 13 = .ok (.iconst (-1), 1) := by decide +kernel
theorem dX4_settle_14 : decode cX4_settle 14 = .ok (.if_icmp .ne 5, 3) := by decide +kernel
theorem dX4_settle_17 : decode cX4_settle 17 = .ok (.iload_n 2, 1) := by decide +kernel
theorem dX4_settle_18 : decode cX4_settle 18 = .ok (.ireturn, 1) := by decide +kernel
theorem dX4_settle_19 : decode cX4_settle 19 = .ok (.iload_n 2, 1) := by decide +kernel
theorem dX4_settle_20 : decode cX4_settle 20 = .ok (.iload_n 1, 1) := by decide +kernel
theorem dX4_settle_21 : decode cX4_settle 21 = .ok (.if_icmp .ge 35, 3) := by decide +kernel
theorem dX4_settle_24 : decode cX4_settle 24 = .ok (.aload_n 0, 1) := by decide +kernel
theorem dX4_settle_25 : decode cX4_settle 25 = .ok (.getfield 12, 3) := by decide +kernel
theorem dX4_settle_28 : decode cX4_settle 28 = .ok (.getfield 30, 3) := by decide +kernel
theorem dX4_settle_31 : decode cX4_settle 31 = .ok (.iload_n 3, 1) := by decide +kernel
theorem dX4_settle_32 : decode cX4_settle 32 = .ok (.aaload, 1) := by decide +kernel
theorem dX4_settle_33 : decode cX4_settle 33 = .ok (.aload_n 0, 1) := by decide +kernel
theorem dX4_settle_34 : decode cX4_settle 34 = .ok (.getfield 73, 3) := by decide +kernel
theorem dX4_settle_37 : decode cX4_settle 37 = .ok (.putfield 34, 3) := by decide +kernel
theorem dX4_settle_40 : decode cX4_settle 40 = .ok (.aload_n 0, 1) := by decide +kernel
theorem dX4_settle_41 : decode cX4_settle 41 = .ok (.getfield 12, 3) := by decide +kernel
theorem dX4_settle_44 : decode cX4_settle 44 = .ok (.getfield 30, 3) := by decide +kernel
theorem dX4_settle_47 : decode cX4_settle 47 = .ok (.iload_n 3, 1) := by decide +kernel
theorem dX4_settle_48 : decode cX4_settle 48 = .ok (.aaload, 1) := by decide +kernel
theorem dX4_settle_49 : decode cX4_settle 49 = .ok (.aload_n 0, 1) := by decide +kernel
theorem dX4_settle_50 : decode cX4_settle 50 = .ok (.getfield 74, 3) := by decide +kernel
theorem dX4_settle_53 : decode cX4_settle 53 = .ok (.putfield 40, 3) := by decide +kernel
theorem dX4_settle_56 : decode cX4_settle 56 = .ok (.iinc 2 1, 3) := by decide +kernel
theorem dX4_settle_59 : decode cX4_settle 59 = .ok (.goto (-57), 3) := by decide +kernel
theorem dX4_settle_62 : decode cX4_settle 62 = .ok (.iconst (-1), 1) := by decide +kernel
theorem dX4_settle_63 : decode cX4_settle 63 = .ok (.ireturn, 1) := by decide +kernel
theorem dX4_tellEwe_0 : decode cX4_tellEwe 0 = .ok (.aload_n 0, 1) := by decide +kernel
theorem dX4_tellEwe_1 : decode cX4_tellEwe 1 = .ok (.iload_n 1, 1) := by decide +kernel
theorem dX4_tellEwe_2 : decode cX4_tellEwe 2 = .ok (.putfield 120, 3) := by decide +kernel
theorem dX4_tellEwe_5 : decode cX4_tellEwe 5 = .ok (.aload_n 0, 1) := by decide +kernel
theorem dX4_tellEwe_6 : decode cX4_tellEwe 6 = .ok (.aload_n 0, 1) := by decide +kernel
theorem dX4_tellEwe_7 : decode cX4_tellEwe 7 = .ok (.getfield 22, 3) := by decide +kernel
theorem dX4_tellEwe_10 : decode cX4_tellEwe 10 = .ok (.aload_n 0, 1) := by decide +kernel
theorem dX4_tellEwe_11 : decode cX4_tellEwe 11 = .ok (.getfield 12, 3) := by decide +kernel
theorem dX4_tellEwe_14 : decode cX4_tellEwe 14 = .ok (.iload_n 1, 1) := by decide +kernel
theorem dX4_tellEwe_15 : decode cX4_tellEwe 15 = .ok (.invokevirtual 123, 3) := by decide +kernel
theorem dX4_tellEwe_18 : decode cX4_tellEwe 18 = .ok (.putfield 126, 3) := by decide +kernel
theorem dX4_tellEwe_21 : decode cX4_tellEwe 21 = .ok (.aload_n 0, 1) := by decide +kernel
theorem dX4_tellEwe_22 : decode cX4_tellEwe 22 = .ok (.getfield 12, 3) := by decide +kernel
theorem dX4_tellEwe_25 : decode cX4_tellEwe 25 = .ok (.getfield 30, 3) := by decide +kernel
theorem dX4_tellEwe_28 : decode cX4_tellEwe 28 = .ok (.aload_n 0, 1) := by decide +kernel
theorem dX4_tellEwe_29 : decode cX4_tellEwe 29 = .ok (.getfield 12, 3) := by decide +kernel
theorem dX4_tellEwe_32 : decode cX4_tellEwe 32 = .ok (.getfield 81, 3) := by decide +kernel
theorem dX4_tellEwe_35 : decode cX4_tellEwe 35 = .ok (.aaload, 1) := by decide +kernel
theorem dX4_tellEwe_36 : decode cX4_tellEwe 36 = .ok (.astore 4, 2) := by decide +kernel
theorem dX4_tellEwe_38 : decode cX4_tellEwe 38 = .ok (.aload 4, 2) := by decide +kernel
theorem dX4_tellEwe_40 : decode cX4_tellEwe 40 = .ok (.iload_n 1, 1) := by decide +kernel
theorem dX4_tellEwe_41 : decode cX4_tellEwe 41 = .ok (.putfield 67, 3) := by decide +kernel
theorem dX4_tellEwe_44 : decode cX4_tellEwe 44 = .ok (.aload 4, 2) := by decide +kernel
theorem dX4_tellEwe_46 : decode cX4_tellEwe 46 = .ok (.iload_n 1, 1) := by decide +kernel
theorem dX4_tellEwe_47 : decode cX4_tellEwe 47 = .ok (.putfield 129, 3) := by decide +kernel
theorem dX4_tellEwe_50 : decode cX4_tellEwe 50 = .ok (.aload 4, 2) := by decide +kernel
theorem dX4_tellEwe_52 : decode cX4_tellEwe 52 = .ok (.iload_n 2, 1) := by decide +kernel
theorem dX4_tellEwe_53 : decode cX4_tellEwe 53 = .ok (.putfield 34, 3) := by decide +kernel
theorem dX4_tellEwe_56 : decode cX4_tellEwe 56 = .ok (.aload 4, 2) := by decide +kernel
theorem dX4_tellEwe_58 : decode cX4_tellEwe 58 = .ok (.iload_n 3, 1) := by decide +kernel
theorem dX4_tellEwe_59 : decode cX4_tellEwe 59 = .ok (.putfield 132, 3) := by decide +kernel
theorem dX4_tellEwe_62 : decode cX4_tellEwe 62 = .ok (.aload 4, 2) := by decide +kernel
theorem dX4_tellEwe_64 : decode cX4_tellEwe 64 = .ok (.iconst 1, 1) := by decide +kernel
theorem dX4_tellEwe_65 : decode cX4_tellEwe 65 = .ok (.putfield 88, 3) := by decide +kernel
theorem dX4_tellEwe_68 : decode cX4_tellEwe 68 = .ok (.aload 4, 2) := by decide +kernel
theorem dX4_tellEwe_70 : decode cX4_tellEwe 70 = .ok (.iconst 0, 1) := by decide +kernel
theorem dX4_tellEwe_71 : decode cX4_tellEwe 71 = .ok (.putfield 94, 3) := by decide +kernel
theorem dX4_tellEwe_74 : decode cX4_tellEwe 74 = .ok (.aload 4, 2) := by decide +kernel
theorem dX4_tellEwe_76 : decode cX4_tellEwe 76 = .ok (.iconst 0, 1) := by decide +kernel
theorem dX4_tellEwe_77 : decode cX4_tellEwe 77 = .ok (.putfield 135, 3) := by decide +kernel
theorem dX4_tellEwe_80 : decode cX4_tellEwe 80 = .ok (.aload_n 0, 1) := by decide +kernel
theorem dX4_tellEwe_81 : decode cX4_tellEwe 81 = .ok (.getfield 12, 3) := by decide +kernel
theorem dX4_tellEwe_84 : decode cX4_tellEwe 84 = .ok (.dup, 1) := by decide +kernel
theorem dX4_tellEwe_85 : decode cX4_tellEwe 85 = .ok (.getfield 81, 3) := by decide +kernel
theorem dX4_tellEwe_88 : decode cX4_tellEwe 88 = .ok (.iconst 1, 1) := by decide +kernel
theorem dX4_tellEwe_89 : decode cX4_tellEwe 89 = .ok (.iadd, 1) := by decide +kernel
theorem dX4_tellEwe_90 : decode cX4_tellEwe 90 = .ok (.putfield 81, 3) := by decide +kernel
theorem dX4_tellEwe_93 : decode cX4_tellEwe 93 = .ok (.return_, 1) := by decide +kernel
theorem dX4_worthAt_0 : decode cX4_worthAt 0 = .ok (.aload_n 0, 1) := by decide +kernel
theorem dX4_worthAt_1 : decode cX4_worthAt 1 = .ok (.getfield 12, 3) := by decide +kernel
theorem dX4_worthAt_4 : decode cX4_worthAt 4 = .ok (.getfield 30, 3) := by decide +kernel
theorem dX4_worthAt_7 : decode cX4_worthAt 7 = .ok (.aload_n 0, 1) := by decide +kernel
theorem dX4_worthAt_8 : decode cX4_worthAt 8 = .ok (.getfield 12, 3) := by decide +kernel
theorem dX4_worthAt_11 : decode cX4_worthAt 11 = .ok (.getfield 81, 3) := by decide +kernel
theorem dX4_worthAt_14 : decode cX4_worthAt 14 = .ok (.iconst 1, 1) := by decide +kernel
theorem dX4_worthAt_15 : decode cX4_worthAt 15 = .ok (.isub, 1) := by decide +kernel
theorem dX4_worthAt_16 : decode cX4_worthAt 16 = .ok (.aaload, 1) := by decide +kernel
theorem dX4_worthAt_17 : decode cX4_worthAt 17 = .ok (.iload_n 1, 1) := by decide +kernel
theorem dX4_worthAt_18 : decode cX4_worthAt 18 = .ok (.putfield 40, 3) := by decide +kernel
theorem dX4_worthAt_21 : decode cX4_worthAt 21 = .ok (.aload_n 0, 1) := by decide +kernel
theorem dX4_worthAt_22 : decode cX4_worthAt 22 = .ok (.getfield 22, 3) := by decide +kernel
theorem dX4_worthAt_25 : decode cX4_worthAt 25 = .ok (.aload_n 0, 1) := by decide +kernel
theorem dX4_worthAt_26 : decode cX4_worthAt 26 = .ok (.getfield 12, 3) := by decide +kernel
theorem dX4_worthAt_29 : decode cX4_worthAt 29 = .ok (.aload_n 0, 1) := by decide +kernel
theorem dX4_worthAt_30 : decode cX4_worthAt 30 = .ok (.getfield 120, 3) := by decide +kernel
theorem dX4_worthAt_33 : decode cX4_worthAt 33 = .ok (.invokevirtual 123, 3) := by decide +kernel
theorem dX4_worthAt_36 : decode cX4_worthAt 36 = .ok (.aload_n 0, 1) := by decide +kernel
theorem dX4_worthAt_37 : decode cX4_worthAt 37 = .ok (.getfield 126, 3) := by decide +kernel
theorem dX4_worthAt_40 : decode cX4_worthAt 40 = .ok (.isub, 1) := by decide +kernel
theorem dX4_worthAt_41 : decode cX4_worthAt 41 = .ok (.ireturn, 1) := by decide +kernel
theorem dX5_init_0 : decode cX5_init 0 = .ok (.aload_n 0, 1) := by decide +kernel
theorem dX5_init_1 : decode cX5_init 1 = .ok (.invokespecial 3, 3) := by decide +kernel
theorem dX5_init_4 : decode cX5_init 4 = .ok (.aload_n 0, 1) := by decide +kernel
theorem dX5_init_5 : decode cX5_init 5 = .ok (.iconst (-1), 1) := by decide +kernel
theorem dX5_init_6 : decode cX5_init 6 = .ok (.putfield 9, 3) := by decide +kernel
theorem dX5_init_9 : decode cX5_init 9 = .ok (.aload_n 0, 1) := by decide +kernel
theorem dX5_init_10 : decode cX5_init 10 = .ok (.aload_n 1, 1) := by decide +kernel
theorem dX5_init_11 : decode cX5_init 11 = .ok (.putfield 15, 3) := by decide +kernel
theorem dX5_init_14 : decode cX5_init 14 = .ok (.aload_n 0, 1) := by decide +kernel
theorem dX5_init_15 : decode cX5_init 15 = .ok (.aload_n 2, 1) := by decide +kernel
theorem dX5_init_16 : decode cX5_init 16 = .ok (.putfield 19, 3) := by decide +kernel
theorem dX5_init_19 : decode cX5_init 19 = .ok (.return_, 1) := by decide +kernel
theorem dX5_begin_0 : decode cX5_begin 0 = .ok (.aload_n 0, 1) := by decide +kernel
theorem dX5_begin_1 : decode cX5_begin 1 = .ok (.iconst 0, 1) := by decide +kernel
theorem dX5_begin_2 : decode cX5_begin 2 = .ok (.putfield 23, 3) := by decide +kernel
theorem dX5_begin_5 : decode cX5_begin 5 = .ok (.aload_n 0, 1) := by decide +kernel
theorem dX5_begin_6 : decode cX5_begin 6 = .ok (.iconst (-1), 1) := by decide +kernel
theorem dX5_begin_7 : decode cX5_begin 7 = .ok (.putfield 9, 3) := by decide +kernel
theorem dX5_begin_10 : decode cX5_begin 10 = .ok (.aload_n 0, 1) := by decide +kernel
theorem dX5_begin_11 : decode cX5_begin 11 = .ok (.iconst 0, 1) := by decide +kernel
theorem dX5_begin_12 : decode cX5_begin 12 = .ok (.putfield 26, 3) := by decide +kernel
theorem dX5_begin_15 : decode cX5_begin 15 = .ok (.aload_n 0, 1) := by decide +kernel
theorem dX5_begin_16 : decode cX5_begin 16 = .ok (.iconst 0, 1) := by decide +kernel
theorem dX5_begin_17 : decode cX5_begin 17 = .ok (.putfield 30, 3) := by decide +kernel
theorem dX5_begin_20 : decode cX5_begin 20 = .ok (.aload_n 0, 1) := by decide +kernel
theorem dX5_begin_21 : decode cX5_begin 21 = .ok (.getfield 19, 3) := by decide +kernel
theorem dX5_begin_24 : decode cX5_begin 24 = .ok (.invokevirtual 33, 3) := by decide +kernel
theorem dX5_begin_27 : decode cX5_begin 27 = .ok (.aload_n 0, 1) := by decide +kernel
theorem dX5_begin_28 : decode cX5_begin 28 = .ok (.invokevirtual 38, 3) := by decide +kernel
theorem dX5_begin_31 : decode cX5_begin 31 = .ok (.return_, 1) := by decide +kernel
theorem dX5_hasMore_0 : decode cX5_hasMore 0 = .ok (.aload_n 0, 1) := by decide +kernel
theorem dX5_hasMore_1 : decode cX5_hasMore 1 = .ok (.getfield 23, 3) := by decide +kernel
theorem dX5_hasMore_4 : decode cX5_hasMore 4 = .ok (.ifCond .ne 14, 3) := by decide +kernel
theorem dX5_hasMore_7 : decode cX5_hasMore 7 = .ok (.aload_n 0, 1) := by decide +kernel
theorem dX5_hasMore_8 : decode cX5_hasMore 8 = .ok (.getfield 41, 3) := by decide +kernel
theorem dX5_hasMore_11 : decode cX5_hasMore 11 = .ok (.ifCond .eq 7, 3) := by decide +kernel
theorem dX5_hasMore_14 : decode cX5_hasMore 14 = .ok (.iconst 1, 1) := by decide +kernel
theorem dX5_hasMore_15 : decode cX5_hasMore 15 = .ok (.goto 4, 3) := by decide +kernel
theorem dX5_hasMore_18 : decode cX5_hasMore 18 = .ok (.iconst 0, 1) := by decide +kernel
theorem dX5_hasMore_19 : decode cX5_hasMore 19 = .ok (.ireturn, 1) := by decide +kernel
theorem dX5_refuse_0 : decode cX5_refuse 0 = .ok (.aload_n 0, 1) := by decide +kernel
theorem dX5_refuse_1 : decode cX5_refuse 1 = .ok (.getfield 23, 3) := by decide +kernel
theorem dX5_refuse_4 : decode cX5_refuse 4 = .ok (.ifCond .ne 16, 3) := by decide +kernel
theorem dX5_refuse_7 : decode cX5_refuse 7 = .ok (.aload_n 0, 1) := by decide +kernel
theorem dX5_refuse_8 : decode cX5_refuse 8 = .ok (.iload_n 1, 1) := by decide +kernel
theorem dX5_refuse_9 : decode cX5_refuse 9 = .ok (.putfield 23, 3) := by decide +kernel
theorem dX5_refuse_12 : decode cX5_refuse 12 = .ok (.aload_n 0, 1) := by decide +kernel
theorem dX5_refuse_13 : decode cX5_refuse 13 = .ok (.aload_n 0, 1) := by decide +kernel
theorem dX5_refuse_14 : decode cX5_refuse 14 = .ok (.getfield 44, 3) := by decide +kernel
theorem dX5_refuse_17 : decode cX5_refuse 17 = .ok (.putfield 9, 3) := by decide +kernel
theorem dX5_refuse_20 : decode cX5_refuse 20 = .ok (.return_, 1) := by decide +kernel
theorem dX5_isBlank_0 : decode cX5_isBlank 0 = .ok (.iload_n 0, 1) := by decide +kernel
theorem dX5_isBlank_1 : decode cX5_isBlank 1 = .ok (.bipush 32, 2) := by decide +kernel
theorem dX5_isBlank_3 : decode cX5_isBlank 3 = .ok (.if_icmp .eq 9, 3) := by decide +kernel
theorem dX5_isBlank_6 : decode cX5_isBlank 6 = .ok (.iload_n 0, 1) := by decide +kernel
theorem dX5_isBlank_7 : decode cX5_isBlank 7 = .ok (.bipush 10, 2) := by decide +kernel
theorem dX5_isBlank_9 : decode cX5_isBlank 9 = .ok (.if_icmp .ne 7, 3) := by decide +kernel
theorem dX5_isBlank_12 : decode cX5_isBlank 12 = .ok (.iconst 1, 1) := by decide +kernel
theorem dX5_isBlank_13 : decode cX5_isBlank 13 = .ok (.goto 4, 3) := by decide +kernel
theorem dX5_isBlank_16 : decode cX5_isBlank 16 = .ok (.iconst 0, 1) := by decide +kernel
theorem dX5_isBlank_17 : decode cX5_isBlank 17 = .ok (.ireturn, 1) := by decide +kernel
theorem dX5_isLetter_0 : decode cX5_isLetter 0 = .ok (.iload_n 0, 1) := by decide +kernel
theorem dX5_isLetter_1 : decode cX5_isLetter 1 = .ok (.bipush 97, 2) := by decide +kernel
theorem dX5_isLetter_3 : decode cX5_isLetter 3 = .ok (.if_icmp .lt 13, 3) := by decide +kernel
theorem dX5_isLetter_6 : decode cX5_isLetter 6 = .ok (.iload_n 0, 1) := by decide +kernel
theorem dX5_isLetter_7 : decode cX5_isLetter 7 = .ok (.bipush 122, 2) := by decide +kernel
theorem dX5_isLetter_9 : decode cX5_isLetter 9 = .ok (.if_icmp .gt 7, 3) := by decide +kernel
theorem dX5_isLetter_12 : decode cX5_isLetter 12 = .ok (.iconst 1, 1) := by decide +kernel
theorem dX5_isLetter_13 : decode cX5_isLetter 13 = .ok (.goto 4, 3) := by decide +kernel
theorem dX5_isLetter_16 : decode cX5_isLetter 16 = .ok (.iconst 0, 1) := by decide +kernel
theorem dX5_isLetter_17 : decode cX5_isLetter 17 = .ok (.ireturn, 1) := by decide +kernel
theorem dX5_isDigit_0 : decode cX5_isDigit 0 = .ok (.iload_n 0, 1) := by decide +kernel
theorem dX5_isDigit_1 : decode cX5_isDigit 1 = .ok (.bipush 48, 2) := by decide +kernel
theorem dX5_isDigit_3 : decode cX5_isDigit 3 = .ok (.if_icmp .lt 13, 3) := by decide +kernel
theorem dX5_isDigit_6 : decode cX5_isDigit 6 = .ok (.iload_n 0, 1) := by decide +kernel
theorem dX5_isDigit_7 : decode cX5_isDigit 7 = .ok (.bipush 57, 2) := by decide +kernel
theorem dX5_isDigit_9 : decode cX5_isDigit 9 = .ok (.if_icmp .gt 7, 3) := by decide +kernel
theorem dX5_isDigit_12 : decode cX5_isDigit 12 = .ok (.iconst 1, 1) := by decide +kernel
theorem dX5_isDigit_13 : decode cX5_isDigit 13 = .ok (.goto 4, 3) := by decide +kernel
theorem dX5_isDigit_16 : decode cX5_isDigit 16 = .ok (.iconst 0, 1) := by decide +kernel
theorem dX5_isDigit_17 : decode cX5_isDigit 17 = .ok (.ireturn, 1) := by decide +kernel
theorem dX5_step_0 : decode cX5_step 0 = .ok (.aload_n 0, 1) := by decide +kernel
theorem dX5_step_1 : decode cX5_step 1 = .ok (.getfield 15, 3) := by decide +kernel
theorem dX5_step_4 : decode cX5_step 4 = .ok (.getfield 47, 3) := by decide +kernel
theorem dX5_step_7 : decode cX5_step 7 = .ok (.astore_n 1, 1) := by decide +kernel
theorem dX5_step_8 : decode cX5_step 8 = .ok (.aload_n 0, 1) := by decide +kernel
theorem dX5_step_9 : decode cX5_step 9 = .ok (.getfield 15, 3) := by decide +kernel
theorem dX5_step_12 : decode cX5_step 12 = .ok (.getfield 53, 3) := by decide +kernel
theorem dX5_step_15 : decode cX5_step 15 = .ok (.sipush 1600, 3) := by decide +kernel
theorem dX5_step_18 : decode cX5_step 18 = .ok (.invokestatic 56, 3) := by decide +kernel
theorem dX5_step_21 : decode cX5_step 21 = .ok (.istore_n 2, 1) := by decide +kernel
theorem dX5_step_22 : decode cX5_step 22 = .ok (.aload_n 0, 1) := by decide +kernel
theorem dX5_step_23 : decode cX5_step 23 = .ok (.getfield 30, 3) := by decide +kernel
theorem dX5_step_26 : decode cX5_step 26 = .ok (.iload_n 2, 1) := by decide +kernel
theorem dX5_step_27 : decode cX5_step 27 = .ok (.if_icmp .ge 28, 3) := by decide +kernel
theorem dX5_step_30 : decode cX5_step 30 = .ok (.aload_n 1, 1) := by decide +kernel
theorem dX5_step_31 : decode cX5_step 31 = .ok (.aload_n 0, 1) := by decide +kernel
theorem dX5_step_32 : decode cX5_step 32 = .ok (.getfield 30, 3) := by decide +kernel
theorem dX5_step_35 : decode cX5_step 35 = .ok (.baload, 1) := by decide +kernel
theorem dX5_step_36 : decode cX5_step 36 = .ok (.invokestatic 62, 3) := by decide +kernel
theorem dX5_step_39 : decode cX5_step 39 = .ok (.ifCond .eq 16, 3) := by decide +kernel
theorem dX5_step_42 : decode cX5_step 42 = .ok (.aload_n 0, 1) := by decide +kernel
theorem dX5_step_43 : decode cX5_step 43 = .ok (.dup, 1) := by decide +kernel
theorem dX5_step_44 : decode cX5_step 44 = .ok (.getfield 30, 3) := by decide +kernel
theorem dX5_step_47 : decode cX5_step 47 = .ok (.iconst 1, 1) := by decide +kernel
theorem dX5_step_48 : decode cX5_step 48 = .ok (.iadd, 1) := by decide +kernel
theorem dX5_step_49 : decode cX5_step 49 = .ok (.putfield 30, 3) := by decide +kernel
theorem dX5_step_52 : decode cX5_step 52 = .ok (.goto (-30), 3) := by decide +kernel
theorem dX5_step_55 : decode cX5_step 55 = .ok (.aload_n 0, 1) := by decide +kernel
theorem dX5_step_56 : decode cX5_step 56 = .ok (.aload_n 0, 1) := by decide +kernel
theorem dX5_step_57 : decode cX5_step 57 = .ok (.getfield 30, 3) := by decide +kernel
theorem dX5_step_60 : decode cX5_step 60 = .ok (.putfield 44, 3) := by decide +kernel
theorem dX5_step_63 : decode cX5_step 63 = .ok (.aload_n 0, 1) := by decide +kernel
theorem dX5_step_64 : decode cX5_step 64 = .ok (.getfield 44, 3) := by decide +kernel
theorem dX5_step_67 : decode cX5_step 67 = .ok (.iload_n 2, 1) := by decide +kernel
theorem dX5_step_68 : decode cX5_step 68 = .ok (.if_icmp .lt 11, 3) := by decide +kernel
theorem dX5_step_71 : decode cX5_step 71 = .ok (.aload_n 0, 1) := by decide +kernel
theorem dX5_step_72 : decode cX5_step 72 = .ok (.iconst 0, 1) := by decide +kernel
theorem dX5_step_73 : decode cX5_step 73 = .ok (.putfield 41, 3) := by decide +kernel
theorem dX5_step_76 : decode cX5_step 76 = .ok (.goto 164, 3) := by decide +kernel
theorem dX5_step_79 : decode cX5_step 79 = .ok (.aload_n 1, 1) := by decide +kernel
theorem dX5_step_80 : decode cX5_step 80 = .ok (.aload_n 0, 1) := by decide +kernel
theorem dX5_step_81 : decode cX5_step 81 = .ok (.getfield 44, 3) := by decide +kernel
theorem dX5_step_84 : decode cX5_step 84 = .ok (.baload, 1) := by decide +kernel
theorem dX5_step_85 : decode cX5_step 85 = .ok (.invokestatic 66, 3) := by decide +kernel
theorem dX5_step_88 : decode cX5_step 88 = .ok (.ifCond .eq 41, 3) := by decide +kernel
theorem dX5_step_91 : decode cX5_step 91 = .ok (.aload_n 0, 1) := by decide +kernel
theorem dX5_step_92 : decode cX5_step 92 = .ok (.iconst 1, 1) := by decide +kernel
theorem dX5_step_93 : decode cX5_step 93 = .ok (.putfield 41, 3) := by decide +kernel
theorem dX5_step_96 : decode cX5_step 96 = .ok (.aload_n 0, 1) := by decide +kernel
theorem dX5_step_97 : decode cX5_step 97 = .ok (.getfield 30, 3) := by decide +kernel
theorem dX5_step_100 : decode cX5_step 100 = .ok (.iload_n 2, 1) := by decide +kernel
theorem dX5_step_101 : decode cX5_step 101 = .ok (.if_icmp .ge 139, 3) := by decide +kernel
theorem dX5_step_104 : decode cX5_step 104 = .ok (.aload_n 1, 1) := by decide +kernel
theorem dX5_step_105 : decode cX5_step 105 = .ok (.aload_n 0, 1) := by decide +kernel

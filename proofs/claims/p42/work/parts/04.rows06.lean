theorem dX10_rest_0 : decode cX10_rest 0 = .ok (.aload_n 0, 1) := by decide +kernel
theorem dX10_rest_1 : decode cX10_rest 1 = .ok (.iconst 0, 1) := by decide +kernel
theorem dX10_rest_2 : decode cX10_rest 2 = .ok (.putfield 104, 3) := by decide +kernel
theorem dX10_rest_5 : decode cX10_rest 5 = .ok (.aload_n 0, 1) := by decide +kernel
theorem dX10_rest_6 : decode cX10_rest 6 = .ok (.invokevirtual 280, 3) := by decide +kernel
theorem dX10_rest_9 : decode cX10_rest 9 = .ok (.ifCond .eq 10, 3) := by decide +kernel
theorem dX10_rest_12 : decode cX10_rest 12 = .ok (.aload_n 0, 1) := by decide +kernel
theorem dX10_rest_13 : decode cX10_rest 13 = .ok (.invokevirtual 408, 3) := by decide +kernel
theorem dX10_rest_16 : decode cX10_rest 16 = .ok (.goto 5, 3) := by decide +kernel
theorem dX10_rest_19 : decode cX10_rest 19 = .ok (.bipush (-2), 2) := by decide +kernel
theorem dX10_rest_21 : decode cX10_rest 21 = .ok (.ireturn, 1) := by decide +kernel
theorem dX10_restsBy_0 : decode cX10_restsBy 0 = .ok (.iconst 0, 1) := by decide +kernel
theorem dX10_restsBy_1 : decode cX10_restsBy 1 = .ok (.istore_n 2, 1) := by decide +kernel
theorem dX10_restsBy_2 : decode cX10_restsBy 2 = .ok (.iload_n 2, 1) := by decide +kernel
theorem dX10_restsBy_3 : decode cX10_restsBy 3 = .ok (.aload_n 0, 1) := by decide +kernel
theorem dX10_restsBy_4 : decode cX10_restsBy 4 = .ok (.getfield 34, 3) := by decide +kernel
theorem dX10_restsBy_7 : decode cX10_restsBy 7 = .ok (.iconst 3, 1) := by decide +kernel
theorem dX10_restsBy_8 : decode cX10_restsBy 8 = .ok (.iaload, 1) := by decide +kernel
theorem dX10_restsBy_9 : decode cX10_restsBy 9 = .ok (.if_icmp .ge 33, 3) := by decide +kernel
theorem dX10_restsBy_12 : decode cX10_restsBy 12 = .ok (.aload_n 0, 1) := by decide +kernel
theorem dX10_restsBy_13 : decode cX10_restsBy 13 = .ok (.getfield 83, 3) := by decide +kernel
theorem dX10_restsBy_16 : decode cX10_restsBy 16 = .ok (.iload_n 2, 1) := by decide +kernel
theorem dX10_restsBy_17 : decode cX10_restsBy 17 = .ok (.aload_n 0, 1) := by decide +kernel
theorem dX10_restsBy_18 : decode cX10_restsBy 18 = .ok (.iload_n 2, 1) := by decide +kernel
theorem dX10_restsBy_19 : decode cX10_restsBy 19 = .ok (.iconst 1, 1) := by decide +kernel
theorem dX10_restsBy_20 : decode cX10_restsBy 20 = .ok (.invokevirtual 285, 3) := by decide +kernel
theorem dX10_restsBy_23 : decode cX10_restsBy 23 = .ok (.iastore, 1) := by decide +kernel
theorem dX10_restsBy_24 : decode cX10_restsBy 24 = .ok (.aload_n 0, 1) := by decide +kernel
theorem dX10_restsBy_25 : decode cX10_restsBy 25 = .ok (.getfield 86, 3) := by decide +kernel
theorem dX10_restsBy_28 : decode cX10_restsBy 28 = .ok (.iload_n 2, 1) := by decide +kernel
theorem dX10_restsBy_29 : decode cX10_restsBy 29 = .ok (.aload_n 0, 1) := by decide +kernel
theorem dX10_restsBy_30 : decode cX10_restsBy 30 = .ok (.iload_n 2, 1) := by decide +kernel
theorem dX10_restsBy_31 : decode cX10_restsBy 31 = .ok (.iconst 3, 1) := by decide +kernel
theorem dX10_restsBy_32 : decode cX10_restsBy 32 = .ok (.invokevirtual 285, 3) := by decide +kernel
theorem dX10_restsBy_35 : decode cX10_restsBy 35 = .ok (.iastore, 1) := by decide +kernel
theorem dX10_restsBy_36 : decode cX10_restsBy 36 = .ok (.iinc 2 1, 3) := by decide +kernel
theorem dX10_restsBy_39 : decode cX10_restsBy 39 = .ok (.goto (-37), 3) := by decide +kernel
theorem dX10_restsBy_42 : decode cX10_restsBy 42 = .ok (.iconst (-1), 1) := by decide +kernel
theorem dX10_restsBy_43 : decode cX10_restsBy 43 = .ok (.istore_n 2, 1) := by decide +kernel
theorem dX10_restsBy_44 : decode cX10_restsBy 44 = .ok (.iconst 0, 1) := by decide +kernel
theorem dX10_restsBy_45 : decode cX10_restsBy 45 = .ok (.istore_n 3, 1) := by decide +kernel
theorem dX10_restsBy_46 : decode cX10_restsBy 46 = .ok (.iload_n 3, 1) := by decide +kernel
theorem dX10_restsBy_47 : decode cX10_restsBy 47 = .ok (.iload_n 1, 1) := by decide +kernel
theorem dX10_restsBy_48 : decode cX10_restsBy 48 = .ok (.if_icmp .gt 50, 3) := by decide +kernel
theorem dX10_restsBy_51 : decode cX10_restsBy 51 = .ok (.iload_n 2, 1) := by decide +kernel
theorem dX10_restsBy_52 : decode cX10_restsBy 52 = .ok (.iconst (-1), 1) := by decide +kernel
theorem dX10_restsBy_53 : decode cX10_restsBy 53 = .ok (.if_icmp .ne 45, 3) := by decide +kernel
theorem dX10_restsBy_56 : decode cX10_restsBy 56 = .ok (.aload_n 0, 1) := by decide +kernel
theorem dX10_restsBy_57 : decode cX10_restsBy 57 = .ok (.invokevirtual 408, 3) := by decide +kernel
theorem dX10_restsBy_60 : decode cX10_restsBy 60 = .ok (.istore 4, 2) := by decide +kernel
theorem dX10_restsBy_62 : decode cX10_restsBy 62 = .ok (.iload 4, 2) := by decide +kernel
theorem dX10_restsBy_64 : decode cX10_restsBy 64 = .ok (.iconst (-1), 1) := by decide +kernel
theorem dX10_restsBy_65 : decode cX10_restsBy 65 = .ok (.if_icmp .ne 8, 3) := by decide +kernel
theorem dX10_restsBy_68 : decode cX10_restsBy 68 = .ok (.iload_n 3, 1) := by decide +kernel
theorem dX10_restsBy_69 : decode cX10_restsBy 69 = .ok (.istore_n 2, 1) := by decide +kernel
theorem dX10_restsBy_70 : decode cX10_restsBy 70 = .ok (.goto 22, 3) := by decide +kernel
theorem dX10_restsBy_73 : decode cX10_restsBy 73 = .ok (.iload_n 3, 1) := by decide +kernel
theorem dX10_restsBy_74 : decode cX10_restsBy 74 = .ok (.iload_n 1, 1) := by decide +kernel
theorem dX10_restsBy_75 : decode cX10_restsBy 75 = .ok (.if_icmp .ge 17, 3) := by decide +kernel
theorem dX10_restsBy_78 : decode cX10_restsBy 78 = .ok (.aload_n 0, 1) := by decide +kernel
theorem dX10_restsBy_79 : decode cX10_restsBy 79 = .ok (.iload 4, 2) := by decide +kernel
theorem dX10_restsBy_81 : decode cX10_restsBy 81 = .ok (.aload_n 0, 1) := by decide +kernel
theorem dX10_restsBy_82 : decode cX10_restsBy 82 = .ok (.getfield 395, 3) := by decide +kernel
theorem dX10_restsBy_85 : decode cX10_restsBy 85 = .ok (.aload_n 0, 1) := by decide +kernel
theorem dX10_restsBy_86 : decode cX10_restsBy 86 = .ok (.getfield 398, 3) := by decide +kernel
theorem dX10_restsBy_89 : decode cX10_restsBy 89 = .ok (.invokevirtual 314, 3) := by decide +kernel
theorem dX10_restsBy_92 : decode cX10_restsBy 92 = .ok (.iinc 3 1, 3) := by decide +kernel
theorem dX10_restsBy_95 : decode cX10_restsBy 95 = .ok (.goto (-49), 3) := by decide +kernel
theorem dX10_restsBy_98 : decode cX10_restsBy 98 = .ok (.iconst 0, 1) := by decide +kernel
theorem dX10_restsBy_99 : decode cX10_restsBy 99 = .ok (.istore_n 3, 1) := by decide +kernel
theorem dX10_restsBy_100 : decode cX10_restsBy 100 = .ok (.iload_n 3, 1) := by decide +kernel
theorem dX10_restsBy_101 : decode cX10_restsBy 101 = .ok (.aload_n 0, 1) := by decide +kernel
theorem dX10_restsBy_102 : decode cX10_restsBy 102 = .ok (.getfield 34, 3) := by decide +kernel
theorem dX10_restsBy_105 : decode cX10_restsBy 105 = .ok (.iconst 3, 1) := by decide +kernel
theorem dX10_restsBy_106 : decode cX10_restsBy 106 = .ok (.iaload, 1) := by decide +kernel
theorem dX10_restsBy_107 : decode cX10_restsBy 107 = .ok (.if_icmp .ge 48, 3) := by decide +kernel
theorem dX10_restsBy_110 : decode cX10_restsBy 110 = .ok (.aload_n 0, 1) := by decide +kernel
theorem dX10_restsBy_111 : decode cX10_restsBy 111 = .ok (.getfield 89, 3) := by decide +kernel
theorem dX10_restsBy_114 : decode cX10_restsBy 114 = .ok (.iload_n 3, 1) := by decide +kernel
theorem dX10_restsBy_115 : decode cX10_restsBy 115 = .ok (.bipush 100, 2) := by decide +kernel
theorem dX10_restsBy_117 : decode cX10_restsBy 117 = .ok (.aload_n 0, 1) := by decide +kernel
theorem dX10_restsBy_118 : decode cX10_restsBy 118 = .ok (.iload_n 3, 1) := by decide +kernel
theorem dX10_restsBy_119 : decode cX10_restsBy 119 = .ok (.iconst 1, 1) := by decide +kernel
theorem dX10_restsBy_120 : decode cX10_restsBy 120 = .ok (.invokevirtual 285, 3) := by decide +kernel
theorem dX10_restsBy_123 : decode cX10_restsBy 123 = .ok (.imul, 1) := by decide +kernel
theorem dX10_restsBy_124 : decode cX10_restsBy 124 = .ok (.aload_n 0, 1) := by decide +kernel
theorem dX10_restsBy_125 : decode cX10_restsBy 125 = .ok (.iload_n 3, 1) := by decide +kernel
theorem dX10_restsBy_126 : decode cX10_restsBy 126 = .ok (.iconst 3, 1) := by decide +kernel
theorem dX10_restsBy_127 : decode cX10_restsBy 127 = .ok (.invokevirtual 285, 3) := by decide +kernel
theorem dX10_restsBy_130 : decode cX10_restsBy 130 = .ok (.iadd, 1) := by decide +kernel
theorem dX10_restsBy_131 : decode cX10_restsBy 131 = .ok (.iastore, 1) := by decide +kernel
theorem dX10_restsBy_132 : decode cX10_restsBy 132 = .ok (.aload_n 0, 1) := by decide +kernel
theorem dX10_restsBy_133 : decode cX10_restsBy 133 = .ok (.iload_n 3, 1) := by decide +kernel
theorem dX10_restsBy_134 : decode cX10_restsBy 134 = .ok (.aload_n 0, 1) := by decide +kernel
theorem dX10_restsBy_135 : decode cX10_restsBy 135 = .ok (.getfield 83, 3) := by decide +kernel
theorem dX10_restsBy_138 : decode cX10_restsBy 138 = .ok (.iload_n 3, 1) := by decide +kernel
theorem dX10_restsBy_139 : decode cX10_restsBy 139 = .ok (.iaload, 1) := by decide +kernel
theorem dX10_restsBy_140 : decode cX10_restsBy 140 = .ok (.aload_n 0, 1) := by decide +kernel
theorem dX10_restsBy_141 : decode cX10_restsBy 141 = .ok (.getfield 86, 3) := by decide +kernel
theorem dX10_restsBy_144 : decode cX10_restsBy 144 = .ok (.iload_n 3, 1) := by decide +kernel
theorem dX10_restsBy_145 : decode cX10_restsBy 145 = .ok (.iaload, 1) := by decide +kernel
theorem dX10_restsBy_146 : decode cX10_restsBy 146 = .ok (.invokevirtual 314, 3) := by decide +kernel
theorem dX10_restsBy_149 : decode cX10_restsBy 149 = .ok (.iinc 3 1, 3) := by decide +kernel
theorem dX10_restsBy_152 : decode cX10_restsBy 152 = .ok (.goto (-52), 3) := by decide +kernel
theorem dX10_restsBy_155 : decode cX10_restsBy 155 = .ok (.iload_n 2, 1) := by decide +kernel
theorem dX10_restsBy_156 : decode cX10_restsBy 156 = .ok (.ireturn, 1) := by decide +kernel
theorem dX10_rests_0 : decode cX10_rests 0 = .ok (.aload_n 0, 1) := by decide +kernel
theorem dX10_rests_1 : decode cX10_rests 1 = .ok (.iconst 0, 1) := by decide +kernel
theorem dX10_rests_2 : decode cX10_rests 2 = .ok (.putfield 104, 3) := by decide +kernel
theorem dX10_rests_5 : decode cX10_rests 5 = .ok (.aload_n 0, 1) := by decide +kernel
theorem dX10_rests_6 : decode cX10_rests 6 = .ok (.invokevirtual 280, 3) := by decide +kernel
theorem dX10_rests_9 : decode cX10_rests 9 = .ok (.ifCond .eq 23, 3) := by decide +kernel
theorem dX10_rests_12 : decode cX10_rests 12 = .ok (.iload_n 1, 1) := by decide +kernel
theorem dX10_rests_13 : decode cX10_rests 13 = .ok (.i2l, 1) := by decide +kernel
theorem dX10_rests_14 : decode cX10_rests 14 = .ok (.lconst 0, 1) := by decide +kernel
theorem dX10_rests_15 : decode cX10_rests 15 = .ok (.ldc2_w 411, 3) := by decide +kernel
theorem dX10_rests_18 : decode cX10_rests 18 = .ok (.invokestatic 109, 3) := by decide +kernel
theorem dX10_rests_21 : decode cX10_rests 21 = .ok (.ifCond .eq 11, 3) := by decide +kernel
theorem dX10_rests_24 : decode cX10_rests 24 = .ok (.aload_n 0, 1) := by decide +kernel
theorem dX10_rests_25 : decode cX10_rests 25 = .ok (.iload_n 1, 1) := by decide +kernel
theorem dX10_rests_26 : decode cX10_rests 26 = .ok (.invokevirtual 413, 3) := by decide +kernel
theorem dX10_rests_29 : decode cX10_rests 29 = .ok (.goto 5, 3) := by decide +kernel
theorem dX10_rests_32 : decode cX10_rests 32 = .ok (.bipush (-2), 2) := by decide +kernel
theorem dX10_rests_34 : decode cX10_rests 34 = .ok (.ireturn, 1) := by decide +kernel
theorem dX10_sent_0 : decode cX10_sent 0 = .ok (.aload_n 0, 1) := by decide +kernel
theorem dX10_sent_1 : decode cX10_sent 1 = .ok (.iconst 0, 1) := by decide +kernel
theorem dX10_sent_2 : decode cX10_sent 2 = .ok (.putfield 104, 3) := by decide +kernel
theorem dX10_sent_5 : decode cX10_sent 5 = .ok (.aload_n 0, 1) := by decide +kernel
theorem dX10_sent_6 : decode cX10_sent 6 = .ok (.iload_n 1, 1) := by decide +kernel
theorem dX10_sent_7 : decode cX10_sent 7 = .ok (.invokevirtual 288, 3) := by decide +kernel
theorem dX10_sent_10 : decode cX10_sent 10 = .ok (.ifCond .eq 15, 3) := by decide +kernel
theorem dX10_sent_13 : decode cX10_sent 13 = .ok (.iload_n 2, 1) := by decide +kernel
theorem dX10_sent_14 : decode cX10_sent 14 = .ok (.i2l, 1) := by decide +kernel
theorem dX10_sent_15 : decode cX10_sent 15 = .ok (.lconst 0, 1) := by decide +kernel
theorem dX10_sent_16 : decode cX10_sent 16 = .ok (.ldc2_w 411, 3) := by decide +kernel
theorem dX10_sent_19 : decode cX10_sent 19 = .ok (.invokestatic 109, 3) := by decide +kernel
theorem dX10_sent_22 : decode cX10_sent 22 = .ok (.ifCond .ne 6, 3) := by decide +kernel
theorem dX10_sent_25 : decode cX10_sent 25 = .ok (.bipush (-2), 2) := by decide +kernel
theorem dX10_sent_27 : decode cX10_sent 27 = .ok (.ireturn, 1) := by decide +kernel
theorem dX10_sent_28 : decode cX10_sent 28 = .ok (.aload_n 0, 1) := by decide +kernel
theorem dX10_sent_29 : decode cX10_sent 29 = .ok (.iload_n 2, 1) := by decide +kernel
theorem dX10_sent_30 : decode cX10_sent 30 = .ok (.invokevirtual 413, 3) := by decide +kernel
theorem dX10_sent_33 : decode cX10_sent 33 = .ok (.pop, 1) := by decide +kernel
theorem dX10_sent_34 : decode cX10_sent 34 = .ok (.aload_n 0, 1) := by decide +kernel
theorem dX10_sent_35 : decode cX10_sent 35 = .ok (.getfield 89, 3) := by decide +kernel
theorem dX10_sent_38 : decode cX10_sent 38 = .ok (.iload_n 1, 1) := by decide +kernel
theorem dX10_sent_39 : decode cX10_sent 39 = .ok (.iaload, 1) := by decide +kernel
theorem dX10_sent_40 : decode cX10_sent 40 = .ok (.ireturn, 1) := by decide +kernel
theorem dX10_harm_0 : decode cX10_harm 0 = .ok (.aload_n 0, 1) := by decide +kernel
theorem dX10_harm_1 : decode cX10_harm 1 = .ok (.iconst 0, 1) := by decide +kernel
theorem dX10_harm_2 : decode cX10_harm 2 = .ok (.putfield 104, 3) := by decide +kernel
theorem dX10_harm_5 : decode cX10_harm 5 = .ok (.aload_n 0, 1) := by decide +kernel
theorem dX10_harm_6 : decode cX10_harm 6 = .ok (.iload_n 1, 1) := by decide +kernel
theorem dX10_harm_7 : decode cX10_harm 7 = .ok (.invokevirtual 288, 3) := by decide +kernel
theorem dX10_harm_10 : decode cX10_harm 10 = .ok (.ifCond .ne 6, 3) := by decide +kernel
theorem dX10_harm_13 : decode cX10_harm 13 = .ok (.bipush (-2), 2) := by decide +kernel
theorem dX10_harm_15 : decode cX10_harm 15 = .ok (.ireturn, 1) := by decide +kernel
theorem dX10_harm_16 : decode cX10_harm 16 = .ok (.aload_n 0, 1) := by decide +kernel
theorem dX10_harm_17 : decode cX10_harm 17 = .ok (.invokevirtual 384, 3) := by decide +kernel
theorem dX10_harm_20 : decode cX10_harm 20 = .ok (.aload_n 0, 1) := by decide +kernel
theorem dX10_harm_21 : decode cX10_harm 21 = .ok (.aload_n 0, 1) := by decide +kernel
theorem dX10_harm_22 : decode cX10_harm 22 = .ok (.iload_n 1, 1) := by decide +kernel
theorem dX10_harm_23 : decode cX10_harm 23 = .ok (.iconst 0, 1) := by decide +kernel
theorem dX10_harm_24 : decode cX10_harm 24 = .ok (.invokevirtual 285, 3) := by decide +kernel
theorem dX10_harm_27 : decode cX10_harm 27 = .ok (.invokevirtual 416, 3) := by decide +kernel
theorem dX10_harm_30 : decode cX10_harm 30 = .ok (.istore_n 2, 1) := by decide +kernel
theorem dX10_harm_31 : decode cX10_harm 31 = .ok (.aload_n 0, 1) := by decide +kernel
theorem dX10_harm_32 : decode cX10_harm 32 = .ok (.invokevirtual 372, 3) := by decide +kernel
theorem dX10_harm_35 : decode cX10_harm 35 = .ok (.aload_n 0, 1) := by decide +kernel
theorem dX10_harm_36 : decode cX10_harm 36 = .ok (.iload_n 1, 1) := by decide +kernel
theorem dX10_harm_37 : decode cX10_harm 37 = .ok (.putfield 53, 3) := by decide +kernel
theorem dX10_harm_40 : decode cX10_harm 40 = .ok (.aload_n 0, 1) := by decide +kernel
theorem dX10_harm_41 : decode cX10_harm 41 = .ok (.invokevirtual 375, 3) := by decide +kernel
theorem dX10_harm_44 : decode cX10_harm 44 = .ok (.iload_n 2, 1) := by decide +kernel
theorem dX10_harm_45 : decode cX10_harm 45 = .ok (.aload_n 0, 1) := by decide +kernel
theorem dX10_harm_46 : decode cX10_harm 46 = .ok (.aload_n 0, 1) := by decide +kernel
theorem dX10_harm_47 : decode cX10_harm 47 = .ok (.iload_n 1, 1) := by decide +kernel
theorem dX10_harm_48 : decode cX10_harm 48 = .ok (.iconst 0, 1) := by decide +kernel
theorem dX10_harm_49 : decode cX10_harm 49 = .ok (.invokevirtual 285, 3) := by decide +kernel
theorem dX10_harm_52 : decode cX10_harm 52 = .ok (.invokevirtual 416, 3) := by decide +kernel
theorem dX10_harm_55 : decode cX10_harm 55 = .ok (.isub, 1) := by decide +kernel
theorem dX10_harm_56 : decode cX10_harm 56 = .ok (.ireturn, 1) := by decide +kernel
theorem dX10_eweOf_0 : decode cX10_eweOf 0 = .ok (.aload_n 0, 1) := by decide +kernel
theorem dX10_eweOf_1 : decode cX10_eweOf 1 = .ok (.invokevirtual 384, 3) := by decide +kernel
theorem dX10_eweOf_4 : decode cX10_eweOf 4 = .ok (.aload_n 0, 1) := by decide +kernel
theorem dX10_eweOf_5 : decode cX10_eweOf 5 = .ok (.iload_n 1, 1) := by decide +kernel
theorem dX10_eweOf_6 : decode cX10_eweOf 6 = .ok (.invokevirtual 416, 3) := by decide +kernel
theorem dX10_eweOf_9 : decode cX10_eweOf 9 = .ok (.istore 5, 2) := by decide +kernel
theorem dX10_eweOf_11 : decode cX10_eweOf 11 = .ok (.aload_n 0, 1) := by decide +kernel
theorem dX10_eweOf_12 : decode cX10_eweOf 12 = .ok (.invokevirtual 372, 3) := by decide +kernel
theorem dX10_eweOf_15 : decode cX10_eweOf 15 = .ok (.aload_n 0, 1) := by decide +kernel
theorem dX10_eweOf_16 : decode cX10_eweOf 16 = .ok (.iload_n 1, 1) := by decide +kernel
theorem dX10_eweOf_17 : decode cX10_eweOf 17 = .ok (.iload_n 2, 1) := by decide +kernel
theorem dX10_eweOf_18 : decode cX10_eweOf 18 = .ok (.iload_n 3, 1) := by decide +kernel
theorem dX10_eweOf_19 : decode cX10_eweOf 19 = .ok (.iload 4, 2) := by decide +kernel
theorem dX10_eweOf_21 : decode cX10_eweOf 21 = .ok (.iconst 1, 1) := by decide +kernel
theorem dX10_eweOf_22 : decode cX10_eweOf 22 = .ok (.iconst 0, 1) := by decide +kernel
theorem dX10_eweOf_23 : decode cX10_eweOf 23 = .ok (.iload_n 1, 1) := by decide +kernel
theorem dX10_eweOf_24 : decode cX10_eweOf 24 = .ok (.iconst 0, 1) := by decide +kernel
theorem dX10_eweOf_25 : decode cX10_eweOf 25 = .ok (.invokevirtual 404, 3) := by decide +kernel
theorem dX10_eweOf_28 : decode cX10_eweOf 28 = .ok (.aload_n 0, 1) := by decide +kernel
theorem dX10_eweOf_29 : decode cX10_eweOf 29 = .ok (.invokevirtual 375, 3) := by decide +kernel
theorem dX10_eweOf_32 : decode cX10_eweOf 32 = .ok (.aload_n 0, 1) := by decide +kernel
theorem dX10_eweOf_33 : decode cX10_eweOf 33 = .ok (.iload_n 1, 1) := by decide +kernel
theorem dX10_eweOf_34 : decode cX10_eweOf 34 = .ok (.invokevirtual 416, 3) := by decide +kernel
theorem dX10_eweOf_37 : decode cX10_eweOf 37 = .ok (.iload 5, 2) := by decide +kernel
theorem dX10_eweOf_39 : decode cX10_eweOf 39 = .ok (.isub, 1) := by decide +kernel
theorem dX10_eweOf_40 : decode cX10_eweOf 40 = .ok (.ireturn, 1) := by decide +kernel
theorem dX10_ewe_0 : decode cX10_ewe 0 = .ok (.aload_n 0, 1) := by decide +kernel
theorem dX10_ewe_1 : decode cX10_ewe 1 = .ok (.iconst 0, 1) := by decide +kernel
theorem dX10_ewe_2 : decode cX10_ewe 2 = .ok (.putfield 104, 3) := by decide +kernel
theorem dX10_ewe_5 : decode cX10_ewe 5 = .ok (.aload_n 0, 1) := by decide +kernel
theorem dX10_ewe_6 : decode cX10_ewe 6 = .ok (.iload_n 1, 1) := by decide +kernel
theorem dX10_ewe_7 : decode cX10_ewe 7 = .ok (.i2l, 1) := by decide +kernel
theorem dX10_ewe_8 : decode cX10_ewe 8 = .ok (.invokevirtual 389, 3) := by decide +kernel
theorem dX10_ewe_11 : decode cX10_ewe 11 = .ok (.ifCond .eq 39, 3) := by decide +kernel
theorem dX10_ewe_14 : decode cX10_ewe 14 = .ok (.aload_n 0, 1) := by decide +kernel
theorem dX10_ewe_15 : decode cX10_ewe 15 = .ok (.iload_n 2, 1) := by decide +kernel
theorem dX10_ewe_16 : decode cX10_ewe 16 = .ok (.invokevirtual 308, 3) := by decide +kernel
theorem dX10_ewe_19 : decode cX10_ewe 19 = .ok (.ifCond .eq 31, 3) := by decide +kernel
theorem dX10_ewe_22 : decode cX10_ewe 22 = .ok (.aload_n 0, 1) := by decide +kernel
theorem dX10_ewe_23 : decode cX10_ewe 23 = .ok (.iload_n 3, 1) := by decide +kernel
theorem dX10_ewe_24 : decode cX10_ewe 24 = .ok (.invokevirtual 381, 3) := by decide +kernel
theorem dX10_ewe_27 : decode cX10_ewe 27 = .ok (.ifCond .eq 23, 3) := by decide +kernel
theorem dX10_ewe_30 : decode cX10_ewe 30 = .ok (.iload 4, 2) := by decide +kernel
theorem dX10_ewe_32 : decode cX10_ewe 32 = .ok (.invokestatic 311, 3) := by decide +kernel
theorem dX10_ewe_35 : decode cX10_ewe 35 = .ok (.ifCond .eq 15, 3) := by decide +kernel
theorem dX10_ewe_38 : decode cX10_ewe 38 = .ok (.aload_n 0, 1) := by decide +kernel
theorem dX10_ewe_39 : decode cX10_ewe 39 = .ok (.iload_n 1, 1) := by decide +kernel
theorem dX10_ewe_40 : decode cX10_ewe 40 = .ok (.iload_n 2, 1) := by decide +kernel
theorem dX10_ewe_41 : decode cX10_ewe 41 = .ok (.iload_n 3, 1) := by decide +kernel
theorem dX10_ewe_42 : decode cX10_ewe 42 = .ok (.iload 4, 2) := by decide +kernel
theorem dX10_ewe_44 : decode cX10_ewe 44 = .ok (.invokevirtual 419, 3) := by decide +kernel
theorem dX10_ewe_47 : decode cX10_ewe 47 = .ok (.goto 5, 3) := by decide +kernel
theorem dX10_ewe_50 : decode cX10_ewe 50 = .ok (.bipush (-2), 2) := by decide +kernel
theorem dX10_ewe_52 : decode cX10_ewe 52 = .ok (.ireturn, 1) := by decide +kernel
theorem dX10_waits_0 : decode cX10_waits 0 = .ok (.aload_n 0, 1) := by decide +kernel
theorem dX10_waits_1 : decode cX10_waits 1 = .ok (.iconst 0, 1) := by decide +kernel
theorem dX10_waits_2 : decode cX10_waits 2 = .ok (.putfield 104, 3) := by decide +kernel
theorem dX10_waits_5 : decode cX10_waits 5 = .ok (.aload_n 0, 1) := by decide +kernel
theorem dX10_waits_6 : decode cX10_waits 6 = .ok (.iload_n 1, 1) := by decide +kernel
theorem dX10_waits_7 : decode cX10_waits 7 = .ok (.i2l, 1) := by decide +kernel
theorem dX10_waits_8 : decode cX10_waits 8 = .ok (.invokevirtual 389, 3) := by decide +kernel
theorem dX10_waits_11 : decode cX10_waits 11 = .ok (.ifCond .eq 30, 3) := by decide +kernel
theorem dX10_waits_14 : decode cX10_waits 14 = .ok (.aload_n 0, 1) := by decide +kernel
theorem dX10_waits_15 : decode cX10_waits 15 = .ok (.iload_n 2, 1) := by decide +kernel
theorem dX10_waits_16 : decode cX10_waits 16 = .ok (.invokevirtual 308, 3) := by decide +kernel
theorem dX10_waits_19 : decode cX10_waits 19 = .ok (.ifCond .eq 22, 3) := by decide +kernel
theorem dX10_waits_22 : decode cX10_waits 22 = .ok (.aload_n 0, 1) := by decide +kernel
theorem dX10_waits_23 : decode cX10_waits 23 = .ok (.iload_n 3, 1) := by decide +kernel
theorem dX10_waits_24 : decode cX10_waits 24 = .ok (.invokevirtual 381, 3) := by decide +kernel
theorem dX10_waits_27 : decode cX10_waits 27 = .ok (.ifCond .eq 14, 3) := by decide +kernel
theorem dX10_waits_30 : decode cX10_waits 30 = .ok (.iload 4, 2) := by decide +kernel
theorem dX10_waits_32 : decode cX10_waits 32 = .ok (.i2l, 1) := by decide +kernel
theorem dX10_waits_33 : decode cX10_waits 33 = .ok (.lconst 0, 1) := by decide +kernel
theorem dX10_waits_34 : decode cX10_waits 34 = .ok (.lconst 1, 1) := by decide +kernel
theorem dX10_waits_35 : decode cX10_waits 35 = .ok (.invokestatic 109, 3) := by decide +kernel
theorem dX10_waits_38 : decode cX10_waits 38 = .ok (.ifCond .ne 6, 3) := by decide +kernel
theorem dX10_waits_41 : decode cX10_waits 41 = .ok (.bipush (-2), 2) := by decide +kernel
theorem dX10_waits_43 : decode cX10_waits 43 = .ok (.ireturn, 1) := by decide +kernel
theorem dX10_waits_44 : decode cX10_waits 44 = .ok (.iconst 0, 1) := by decide +kernel
theorem dX10_waits_45 : decode cX10_waits 45 = .ok (.istore 5, 2) := by decide +kernel
theorem dX10_waits_47 : decode cX10_waits 47 = .ok (.aload_n 0, 1) := by decide +kernel
theorem dX10_waits_48 : decode cX10_waits 48 = .ok (.iload_n 1, 1) := by decide +kernel
theorem dX10_waits_49 : decode cX10_waits 49 = .ok (.iload_n 2, 1) := by decide +kernel
theorem dX10_waits_50 : decode cX10_waits 50 = .ok (.iload_n 3, 1) := by decide +kernel
theorem dX10_waits_51 : decode cX10_waits 51 = .ok (.iconst 0, 1) := by decide +kernel
theorem dX10_waits_52 : decode cX10_waits 52 = .ok (.invokevirtual 419, 3) := by decide +kernel
theorem dX10_waits_55 : decode cX10_waits 55 = .ok (.istore 6, 2) := by decide +kernel
theorem dX10_waits_57 : decode cX10_waits 57 = .ok (.iconst 1, 1) := by decide +kernel
theorem dX10_waits_58 : decode cX10_waits 58 = .ok (.istore 7, 2) := by decide +kernel
theorem dX10_waits_60 : decode cX10_waits 60 = .ok (.iload 7, 2) := by decide +kernel
theorem dX10_waits_62 : decode cX10_waits 62 = .ok (.bipush 24, 2) := by decide +kernel
theorem dX10_waits_64 : decode cX10_waits 64 = .ok (.if_icmp .ge 38, 3) := by decide +kernel
theorem dX10_waits_67 : decode cX10_waits 67 = .ok (.aload_n 0, 1) := by decide +kernel
theorem dX10_waits_68 : decode cX10_waits 68 = .ok (.iload_n 1, 1) := by decide +kernel
theorem dX10_waits_69 : decode cX10_waits 69 = .ok (.iload_n 2, 1) := by decide +kernel
theorem dX10_waits_70 : decode cX10_waits 70 = .ok (.iload_n 3, 1) := by decide +kernel
theorem dX10_waits_71 : decode cX10_waits 71 = .ok (.iload 7, 2) := by decide +kernel
theorem dX10_waits_73 : decode cX10_waits 73 = .ok (.invokevirtual 419, 3) := by decide +kernel
theorem dX10_waits_76 : decode cX10_waits 76 = .ok (.istore 8, 2) := by decide +kernel
theorem dX10_waits_78 : decode cX10_waits 78 = .ok (.iload 8, 2) := by decide +kernel
theorem dX10_waits_80 : decode cX10_waits 80 = .ok (.iload 6, 2) := by decide +kernel
theorem dX10_waits_82 : decode cX10_waits 82 = .ok (.if_icmp .gt 6, 3) := by decide +kernel
theorem dX10_waits_85 : decode cX10_waits 85 = .ok (.goto 11, 3) := by decide +kernel
theorem dX10_waits_88 : decode cX10_waits 88 = .ok (.iload 7, 2) := by decide +kernel
theorem dX10_waits_90 : decode cX10_waits 90 = .ok (.istore 5, 2) := by decide +kernel
theorem dX10_waits_92 : decode cX10_waits 92 = .ok (.iload 8, 2) := by decide +kernel
theorem dX10_waits_94 : decode cX10_waits 94 = .ok (.istore 6, 2) := by decide +kernel
theorem dX10_waits_96 : decode cX10_waits 96 = .ok (.iinc 7 1, 3) := by decide +kernel
theorem dX10_waits_99 : decode cX10_waits 99 = .ok (.goto (-39), 3) := by decide +kernel
theorem dX10_waits_102 : decode cX10_waits 102 = .ok (.iload 4, 2) := by decide +kernel
theorem dX10_waits_104 : decode cX10_waits 104 = .ok (.ifCond .ne 8, 3) := by decide +kernel
theorem dX10_waits_107 : decode cX10_waits 107 = .ok (.iload 5, 2) := by decide +kernel
theorem dX10_waits_109 : decode cX10_waits 109 = .ok (.goto 5, 3) := by decide +kernel
theorem dX10_waits_112 : decode cX10_waits 112 = .ok (.iload 6, 2) := by decide +kernel
theorem dX10_waits_114 : decode cX10_waits 114 = .ok (.ireturn, 1) := by decide +kernel
theorem dX10_ring_0 : decode cX10_ring 0 = .ok (.aload_n 0, 1) := by decide +kernel
theorem dX10_ring_1 : decode cX10_ring 1 = .ok (.iconst 0, 1) := by decide +kernel
theorem dX10_ring_2 : decode cX10_ring 2 = .ok (.putfield 104, 3) := by decide +kernel
theorem dX10_ring_5 : decode cX10_ring 5 = .ok (.aload_n 0, 1) := by decide +kernel
theorem dX10_ring_6 : decode cX10_ring 6 = .ok (.iload_n 1, 1) := by decide +kernel
theorem dX10_ring_7 : decode cX10_ring 7 = .ok (.invokevirtual 308, 3) := by decide +kernel
theorem dX10_ring_10 : decode cX10_ring 10 = .ok (.ifCond .eq 27, 3) := by decide +kernel
theorem dX10_ring_13 : decode cX10_ring 13 = .ok (.iload_n 2, 1) := by decide +kernel
theorem dX10_ring_14 : decode cX10_ring 14 = .ok (.i2l, 1) := by decide +kernel
theorem dX10_ring_15 : decode cX10_ring 15 = .ok (.lconst 1, 1) := by decide +kernel
theorem dX10_ring_16 : decode cX10_ring 16 = .ok (.ldc2_w 306, 3) := by decide +kernel
theorem dX10_ring_19 : decode cX10_ring 19 = .ok (.invokestatic 109, 3) := by decide +kernel
theorem dX10_ring_22 : decode cX10_ring 22 = .ok (.ifCond .eq 15, 3) := by decide +kernel
theorem dX10_ring_25 : decode cX10_ring 25 = .ok (.iload_n 3, 1) := by decide +kernel
theorem dX10_ring_26 : decode cX10_ring 26 = .ok (.i2l, 1) := by decide +kernel
theorem dX10_ring_27 : decode cX10_ring 27 = .ok (.lconst 0, 1) := by decide +kernel
theorem dX10_ring_28 : decode cX10_ring 28 = .ok (.ldc2_w 423, 3) := by decide +kernel
theorem dX10_ring_31 : decode cX10_ring 31 = .ok (.invokestatic 109, 3) := by decide +kernel
theorem dX10_ring_34 : decode cX10_ring 34 = .ok (.ifCond .ne 6, 3) := by decide +kernel
theorem dX10_ring_37 : decode cX10_ring 37 = .ok (.bipush (-2), 2) := by decide +kernel
theorem dX10_ring_39 : decode cX10_ring 39 = .ok (.ireturn, 1) := by decide +kernel
theorem dX10_ring_40 : decode cX10_ring 40 = .ok (.aload_n 0, 1) := by decide +kernel
theorem dX10_ring_41 : decode cX10_ring 41 = .ok (.invokevirtual 384, 3) := by decide +kernel
theorem dX10_ring_44 : decode cX10_ring 44 = .ok (.aload_n 0, 1) := by decide +kernel
theorem dX10_ring_45 : decode cX10_ring 45 = .ok (.getfield 59, 3) := by decide +kernel
theorem dX10_ring_48 : decode cX10_ring 48 = .ok (.aload_n 0, 1) := by decide +kernel
theorem dX10_ring_49 : decode cX10_ring 49 = .ok (.iload_n 1, 1) := by decide +kernel
theorem dX10_ring_50 : decode cX10_ring 50 = .ok (.invokevirtual 334, 3) := by decide +kernel
theorem dX10_ring_53 : decode cX10_ring 53 = .ok (.iaload, 1) := by decide +kernel
theorem dX10_ring_54 : decode cX10_ring 54 = .ok (.istore 4, 2) := by decide +kernel
theorem dX10_ring_56 : decode cX10_ring 56 = .ok (.iconst 0, 1) := by decide +kernel
theorem dX10_ring_57 : decode cX10_ring 57 = .ok (.istore 5, 2) := by decide +kernel
theorem dX10_ring_59 : decode cX10_ring 59 = .ok (.iconst 0, 1) := by decide +kernel
theorem dX10_ring_60 : decode cX10_ring 60 = .ok (.istore 6, 2) := by decide +kernel
theorem dX10_ring_62 : decode cX10_ring 62 = .ok (.iload 6, 2) := by decide +kernel
theorem dX10_ring_64 : decode cX10_ring 64 = .ok (.iload_n 2, 1) := by decide +kernel
theorem dX10_ring_65 : decode cX10_ring 65 = .ok (.iload_n 3, 1) := by decide +kernel
theorem dX10_ring_66 : decode cX10_ring 66 = .ok (.imul, 1) := by decide +kernel
theorem dX10_ring_67 : decode cX10_ring 67 = .ok (.if_icmp .ge 32, 3) := by decide +kernel
theorem dX10_ring_70 : decode cX10_ring 70 = .ok (.iinc 4 1, 3) := by decide +kernel
theorem dX10_ring_73 : decode cX10_ring 73 = .ok (.iload 4, 2) := by decide +kernel
theorem dX10_ring_75 : decode cX10_ring 75 = .ok (.aload_n 0, 1) := by decide +kernel
theorem dX10_ring_76 : decode cX10_ring 76 = .ok (.getfield 37, 3) := by decide +kernel
theorem dX10_ring_79 : decode cX10_ring 79 = .ok (.iconst 3, 1) := by decide +kernel
theorem dX10_ring_80 : decode cX10_ring 80 = .ok (.iaload, 1) := by decide +kernel
theorem dX10_ring_81 : decode cX10_ring 81 = .ok (.if_icmp .ge 6, 3) := by decide +kernel
theorem dX10_ring_84 : decode cX10_ring 84 = .ok (.goto 9, 3) := by decide +kernel
theorem dX10_ring_87 : decode cX10_ring 87 = .ok (.iconst 0, 1) := by decide +kernel
theorem dX10_ring_88 : decode cX10_ring 88 = .ok (.istore 4, 2) := by decide +kernel
theorem dX10_ring_90 : decode cX10_ring 90 = .ok (.iinc 5 1, 3) := by decide +kernel
theorem dX10_ring_93 : decode cX10_ring 93 = .ok (.iinc 6 1, 3) := by decide +kernel
theorem dX10_ring_96 : decode cX10_ring 96 = .ok (.goto (-34), 3) := by decide +kernel
theorem dX10_ring_99 : decode cX10_ring 99 = .ok (.iload 5, 2) := by decide +kernel
theorem dX10_ring_101 : decode cX10_ring 101 = .ok (.ireturn, 1) := by decide +kernel
theorem dX10_rounds_0 : decode cX10_rounds 0 = .ok (.aload_n 0, 1) := by decide +kernel
theorem dX10_rounds_1 : decode cX10_rounds 1 = .ok (.iconst 0, 1) := by decide +kernel
theorem dX10_rounds_2 : decode cX10_rounds 2 = .ok (.putfield 104, 3) := by decide +kernel
theorem dX10_rounds_5 : decode cX10_rounds 5 = .ok (.aload_n 0, 1) := by decide +kernel
theorem dX10_rounds_6 : decode cX10_rounds 6 = .ok (.iload_n 1, 1) := by decide +kernel
theorem dX10_rounds_7 : decode cX10_rounds 7 = .ok (.invokevirtual 308, 3) := by decide +kernel
theorem dX10_rounds_10 : decode cX10_rounds 10 = .ok (.ifCond .eq 15, 3) := by decide +kernel
theorem dX10_rounds_13 : decode cX10_rounds 13 = .ok (.iload_n 2, 1) := by decide +kernel
theorem dX10_rounds_14 : decode cX10_rounds 14 = .ok (.i2l, 1) := by decide +kernel
theorem dX10_rounds_15 : decode cX10_rounds 15 = .ok (.lconst 1, 1) := by decide +kernel
theorem dX10_rounds_16 : decode cX10_rounds 16 = .ok (.ldc2_w 306, 3) := by decide +kernel
theorem dX10_rounds_19 : decode cX10_rounds 19 = .ok (.invokestatic 109, 3) := by decide +kernel
theorem dX10_rounds_22 : decode cX10_rounds 22 = .ok (.ifCond .ne 6, 3) := by decide +kernel
theorem dX10_rounds_25 : decode cX10_rounds 25 = .ok (.bipush (-2), 2) := by decide +kernel
theorem dX10_rounds_27 : decode cX10_rounds 27 = .ok (.ireturn, 1) := by decide +kernel
theorem dX10_rounds_28 : decode cX10_rounds 28 = .ok (.aload_n 0, 1) := by decide +kernel
theorem dX10_rounds_29 : decode cX10_rounds 29 = .ok (.invokevirtual 384, 3) := by decide +kernel
theorem dX10_rounds_32 : decode cX10_rounds 32 = .ok (.aload_n 0, 1) := by decide +kernel
theorem dX10_rounds_33 : decode cX10_rounds 33 = .ok (.getfield 59, 3) := by decide +kernel
theorem dX10_rounds_36 : decode cX10_rounds 36 = .ok (.aload_n 0, 1) := by decide +kernel
theorem dX10_rounds_37 : decode cX10_rounds 37 = .ok (.iload_n 1, 1) := by decide +kernel
theorem dX10_rounds_38 : decode cX10_rounds 38 = .ok (.invokevirtual 334, 3) := by decide +kernel
theorem dX10_rounds_41 : decode cX10_rounds 41 = .ok (.iaload, 1) := by decide +kernel
theorem dX10_rounds_42 : decode cX10_rounds 42 = .ok (.istore_n 3, 1) := by decide +kernel
theorem dX10_rounds_43 : decode cX10_rounds 43 = .ok (.iconst 1, 1) := by decide +kernel
theorem dX10_rounds_44 : decode cX10_rounds 44 = .ok (.istore 4, 2) := by decide +kernel
theorem dX10_rounds_46 : decode cX10_rounds 46 = .ok (.iload 4, 2) := by decide +kernel
theorem dX10_rounds_48 : decode cX10_rounds 48 = .ok (.aload_n 0, 1) := by decide +kernel
theorem dX10_rounds_49 : decode cX10_rounds 49 = .ok (.getfield 37, 3) := by decide +kernel
theorem dX10_rounds_52 : decode cX10_rounds 52 = .ok (.iconst 3, 1) := by decide +kernel
theorem dX10_rounds_53 : decode cX10_rounds 53 = .ok (.iaload, 1) := by decide +kernel
theorem dX10_rounds_54 : decode cX10_rounds 54 = .ok (.if_icmp .gt 51, 3) := by decide +kernel
theorem dX10_rounds_57 : decode cX10_rounds 57 = .ok (.iconst 0, 1) := by decide +kernel
theorem dX10_rounds_58 : decode cX10_rounds 58 = .ok (.istore 5, 2) := by decide +kernel
theorem dX10_rounds_60 : decode cX10_rounds 60 = .ok (.iload 5, 2) := by decide +kernel
theorem dX10_rounds_62 : decode cX10_rounds 62 = .ok (.iload_n 2, 1) := by decide +kernel
theorem dX10_rounds_63 : decode cX10_rounds 63 = .ok (.if_icmp .ge 29, 3) := by decide +kernel
theorem dX10_rounds_66 : decode cX10_rounds 66 = .ok (.iload_n 3, 1) := by decide +kernel
theorem dX10_rounds_67 : decode cX10_rounds 67 = .ok (.iconst 1, 1) := by decide +kernel
theorem dX10_rounds_68 : decode cX10_rounds 68 = .ok (.iadd, 1) := by decide +kernel
theorem dX10_rounds_69 : decode cX10_rounds 69 = .ok (.aload_n 0, 1) := by decide +kernel
theorem dX10_rounds_70 : decode cX10_rounds 70 = .ok (.getfield 37, 3) := by decide +kernel
theorem dX10_rounds_73 : decode cX10_rounds 73 = .ok (.iconst 3, 1) := by decide +kernel
theorem dX10_rounds_74 : decode cX10_rounds 74 = .ok (.iaload, 1) := by decide +kernel
theorem dX10_rounds_75 : decode cX10_rounds 75 = .ok (.if_icmp .ge 9, 3) := by decide +kernel
theorem dX10_rounds_78 : decode cX10_rounds 78 = .ok (.iload_n 3, 1) := by decide +kernel
theorem dX10_rounds_79 : decode cX10_rounds 79 = .ok (.iconst 1, 1) := by decide +kernel
theorem dX10_rounds_80 : decode cX10_rounds 80 = .ok (.iadd, 1) := by decide +kernel
theorem dX10_rounds_81 : decode cX10_rounds 81 = .ok (.goto 4, 3) := by decide +kernel
theorem dX10_rounds_84 : decode cX10_rounds 84 = .ok (.iconst 0, 1) := by decide +kernel
theorem dX10_rounds_85 : decode cX10_rounds 85 = .ok (.istore_n 3, 1) := by decide +kernel
theorem dX10_rounds_86 : decode cX10_rounds 86 = .ok (.iinc 5 1, 3) := by decide +kernel
theorem dX10_rounds_89 : decode cX10_rounds 89 = .ok (.goto (-29), 3) := by decide +kernel
theorem dX10_rounds_92 : decode cX10_rounds 92 = .ok (.iload_n 3, 1) := by decide +kernel
theorem dX10_rounds_93 : decode cX10_rounds 93 = .ok (.ifCond .ne 6, 3) := by decide +kernel
theorem dX10_rounds_96 : decode cX10_rounds 96 = .ok (.iload 4, 2) := by decide +kernel
theorem dX10_rounds_98 : decode cX10_rounds 98 = .ok (.ireturn, 1) := by decide +kernel
theorem dX10_rounds_99 : decode cX10_rounds 99 = .ok (.iinc 4 1, 3) := by decide +kernel
theorem dX10_rounds_102 : decode cX10_rounds 102 = .ok (.goto (-56), 3) := by decide +kernel
theorem dX10_rounds_105 : decode cX10_rounds 105 = .ok (.iconst (-1), 1) := by decide +kernel
theorem dX10_rounds_106 : decode cX10_rounds 106 = .ok (.ireturn, 1) := by decide +kernel
theorem dX10_whyNotOrders_0 : decode cX10_whyNotOrders 0 = .ok (.iload_n 1, 1) := by decide +kernel
theorem dX10_whyNotOrders_1 : decode cX10_whyNotOrders 1 = .ok (.invokestatic 113, 3) := by decide +kernel
theorem dX10_whyNotOrders_4 : decode cX10_whyNotOrders 4 = .ok (.ifCond .eq 19, 3) := by decide +kernel
theorem dX10_whyNotOrders_7 : decode cX10_whyNotOrders 7 = .ok (.aload_n 0, 1) := by decide +kernel
theorem dX10_whyNotOrders_8 : decode cX10_whyNotOrders 8 = .ok (.iload_n 2, 1) := by decide +kernel
theorem dX10_whyNotOrders_9 : decode cX10_whyNotOrders 9 = .ok (.invokevirtual 308, 3) := by decide +kernel
theorem dX10_whyNotOrders_12 : decode cX10_whyNotOrders 12 = .ok (.ifCond .eq 11, 3) := by decide +kernel
theorem dX10_whyNotOrders_15 : decode cX10_whyNotOrders 15 = .ok (.aload_n 0, 1) := by decide +kernel
theorem dX10_whyNotOrders_16 : decode cX10_whyNotOrders 16 = .ok (.iload_n 3, 1) := by decide +kernel
theorem dX10_whyNotOrders_17 : decode cX10_whyNotOrders 17 = .ok (.invokevirtual 381, 3) := by decide +kernel
theorem dX10_whyNotOrders_20 : decode cX10_whyNotOrders 20 = .ok (.ifCond .ne 6, 3) := by decide +kernel
theorem dX10_whyNotOrders_23 : decode cX10_whyNotOrders 23 = .ok (.bipush (-2), 2) := by decide +kernel
theorem dX10_whyNotOrders_25 : decode cX10_whyNotOrders 25 = .ok (.ireturn, 1) := by decide +kernel
theorem dX10_whyNotOrders_26 : decode cX10_whyNotOrders 26 = .ok (.aload_n 0, 1) := by decide +kernel
theorem dX10_whyNotOrders_27 : decode cX10_whyNotOrders 27 = .ok (.getfield 7, 3) := by decide +kernel
theorem dX10_whyNotOrders_30 : decode cX10_whyNotOrders 30 = .ok (.iload_n 1, 1) := by decide +kernel
theorem dX10_whyNotOrders_31 : decode cX10_whyNotOrders 31 = .ok (.iaload, 1) := by decide +kernel
theorem dX10_whyNotOrders_32 : decode cX10_whyNotOrders 32 = .ok (.iconst (-1), 1) := by decide +kernel
theorem dX10_whyNotOrders_33 : decode cX10_whyNotOrders 33 = .ok (.if_icmp .ne 6, 3) := by decide +kernel
theorem dX10_whyNotOrders_36 : decode cX10_whyNotOrders 36 = .ok (.bipush (-6), 2) := by decide +kernel
theorem dX10_whyNotOrders_38 : decode cX10_whyNotOrders 38 = .ok (.ireturn, 1) := by decide +kernel
theorem dX10_whyNotOrders_39 : decode cX10_whyNotOrders 39 = .ok (.aload_n 0, 1) := by decide +kernel
theorem dX10_whyNotOrders_40 : decode cX10_whyNotOrders 40 = .ok (.iconst 0, 1) := by decide +kernel
theorem dX10_whyNotOrders_41 : decode cX10_whyNotOrders 41 = .ok (.putfield 425, 3) := by decide +kernel
theorem dX10_whyNotOrders_44 : decode cX10_whyNotOrders 44 = .ok (.iconst 0, 1) := by decide +kernel
theorem dX10_whyNotOrders_45 : decode cX10_whyNotOrders 45 = .ok (.istore 4, 2) := by decide +kernel
theorem dX10_whyNotOrders_47 : decode cX10_whyNotOrders 47 = .ok (.iload 4, 2) := by decide +kernel
theorem dX10_whyNotOrders_49 : decode cX10_whyNotOrders 49 = .ok (.aload_n 0, 1) := by decide +kernel
theorem dX10_whyNotOrders_50 : decode cX10_whyNotOrders 50 = .ok (.getfield 34, 3) := by decide +kernel
theorem dX10_whyNotOrders_53 : decode cX10_whyNotOrders 53 = .ok (.iconst 3, 1) := by decide +kernel
theorem dX10_whyNotOrders_54 : decode cX10_whyNotOrders 54 = .ok (.iaload, 1) := by decide +kernel
theorem dX10_whyNotOrders_55 : decode cX10_whyNotOrders 55 = .ok (.if_icmp .ge 57, 3) := by decide +kernel
theorem dX10_whyNotOrders_58 : decode cX10_whyNotOrders 58 = .ok (.aload_n 0, 1) := by decide +kernel
theorem dX10_whyNotOrders_59 : decode cX10_whyNotOrders 59 = .ok (.iload 4, 2) := by decide +kernel
theorem dX10_whyNotOrders_61 : decode cX10_whyNotOrders 61 = .ok (.iconst 1, 1) := by decide +kernel
theorem dX10_whyNotOrders_62 : decode cX10_whyNotOrders 62 = .ok (.invokevirtual 285, 3) := by decide +kernel
theorem dX10_whyNotOrders_65 : decode cX10_whyNotOrders 65 = .ok (.iload_n 2, 1) := by decide +kernel
theorem dX10_whyNotOrders_66 : decode cX10_whyNotOrders 66 = .ok (.if_icmp .ne 40, 3) := by decide +kernel
theorem dX10_whyNotOrders_69 : decode cX10_whyNotOrders 69 = .ok (.aload_n 0, 1) := by decide +kernel
theorem dX10_whyNotOrders_70 : decode cX10_whyNotOrders 70 = .ok (.iload 4, 2) := by decide +kernel
theorem dX10_whyNotOrders_72 : decode cX10_whyNotOrders 72 = .ok (.invokevirtual 293, 3) := by decide +kernel
theorem dX10_whyNotOrders_75 : decode cX10_whyNotOrders 75 = .ok (.bipush 24, 2) := by decide +kernel
theorem dX10_whyNotOrders_77 : decode cX10_whyNotOrders 77 = .ok (.idiv, 1) := by decide +kernel
theorem dX10_whyNotOrders_78 : decode cX10_whyNotOrders 78 = .ok (.iload_n 3, 1) := by decide +kernel
theorem dX10_whyNotOrders_79 : decode cX10_whyNotOrders 79 = .ok (.if_icmp .eq 6, 3) := by decide +kernel
theorem dX10_whyNotOrders_82 : decode cX10_whyNotOrders 82 = .ok (.goto 24, 3) := by decide +kernel
theorem dX10_whyNotOrders_85 : decode cX10_whyNotOrders 85 = .ok (.aload_n 0, 1) := by decide +kernel
theorem dX10_whyNotOrders_86 : decode cX10_whyNotOrders 86 = .ok (.getfield 92, 3) := by decide +kernel
theorem dX10_whyNotOrders_89 : decode cX10_whyNotOrders 89 = .ok (.aload_n 0, 1) := by decide +kernel
theorem dX10_whyNotOrders_90 : decode cX10_whyNotOrders 90 = .ok (.getfield 425, 3) := by decide +kernel
theorem dX10_whyNotOrders_93 : decode cX10_whyNotOrders 93 = .ok (.iload 4, 2) := by decide +kernel
theorem dX10_whyNotOrders_95 : decode cX10_whyNotOrders 95 = .ok (.iastore, 1) := by decide +kernel
theorem dX10_whyNotOrders_96 : decode cX10_whyNotOrders 96 = .ok (.aload_n 0, 1) := by decide +kernel
theorem dX10_whyNotOrders_97 : decode cX10_whyNotOrders 97 = .ok (.dup, 1) := by decide +kernel
theorem dX10_whyNotOrders_98 : decode cX10_whyNotOrders 98 = .ok (.getfield 425, 3) := by decide +kernel
theorem dX10_whyNotOrders_101 : decode cX10_whyNotOrders 101 = .ok (.iconst 1, 1) := by decide +kernel
theorem dX10_whyNotOrders_102 : decode cX10_whyNotOrders 102 = .ok (.iadd, 1) := by decide +kernel
theorem dX10_whyNotOrders_103 : decode cX10_whyNotOrders 103 = .ok (.putfield 425, 3) := by decide +kernel
theorem dX10_whyNotOrders_106 : decode cX10_whyNotOrders 106 = .ok (.iinc 4 1, 3) := by decide +kernel
theorem dX10_whyNotOrders_109 : decode cX10_whyNotOrders 109 = .ok (.goto (-62), 3) := by decide +kernel
theorem dX10_whyNotOrders_112 : decode cX10_whyNotOrders 112 = .ok (.aload_n 0, 1) := by decide +kernel
theorem dX10_whyNotOrders_113 : decode cX10_whyNotOrders 113 = .ok (.getfield 425, 3) := by decide +kernel
theorem dX10_whyNotOrders_116 : decode cX10_whyNotOrders 116 = .ok (.bipush 6, 2) := by decide +kernel
theorem dX10_whyNotOrders_118 : decode cX10_whyNotOrders 118 = .ok (.if_icmp .le 6, 3) := by decide +kernel
theorem dX10_whyNotOrders_121 : decode cX10_whyNotOrders 121 = .ok (.bipush (-3), 2) := by decide +kernel
theorem dX10_whyNotOrders_123 : decode cX10_whyNotOrders 123 = .ok (.ireturn, 1) := by decide +kernel
theorem dX10_whyNotOrders_124 : decode cX10_whyNotOrders 124 = .ok (.iconst 0, 1) := by decide +kernel
theorem dX10_whyNotOrders_125 : decode cX10_whyNotOrders 125 = .ok (.istore 4, 2) := by decide +kernel
theorem dX10_whyNotOrders_127 : decode cX10_whyNotOrders 127 = .ok (.iload 4, 2) := by decide +kernel
theorem dX10_whyNotOrders_129 : decode cX10_whyNotOrders 129 = .ok (.aload_n 0, 1) := by decide +kernel
theorem dX10_whyNotOrders_130 : decode cX10_whyNotOrders 130 = .ok (.getfield 13, 3) := by decide +kernel
theorem dX10_whyNotOrders_133 : decode cX10_whyNotOrders 133 = .ok (.iload_n 1, 1) := by decide +kernel
theorem dX10_whyNotOrders_134 : decode cX10_whyNotOrders 134 = .ok (.iaload, 1) := by decide +kernel
theorem dX10_whyNotOrders_135 : decode cX10_whyNotOrders 135 = .ok (.if_icmp .ge 31, 3) := by decide +kernel
theorem dX10_whyNotOrders_138 : decode cX10_whyNotOrders 138 = .ok (.aload_n 0, 1) := by decide +kernel
theorem dX10_whyNotOrders_139 : decode cX10_whyNotOrders 139 = .ok (.aload_n 0, 1) := by decide +kernel
theorem dX10_whyNotOrders_140 : decode cX10_whyNotOrders 140 = .ok (.getfield 16, 3) := by decide +kernel
theorem dX10_whyNotOrders_143 : decode cX10_whyNotOrders 143 = .ok (.bipush 60, 2) := by decide +kernel
theorem dX10_whyNotOrders_145 : decode cX10_whyNotOrders 145 = .ok (.iload_n 1, 1) := by decide +kernel
theorem dX10_whyNotOrders_146 : decode cX10_whyNotOrders 146 = .ok (.imul, 1) := by decide +kernel
theorem dX10_whyNotOrders_147 : decode cX10_whyNotOrders 147 = .ok (.iload 4, 2) := by decide +kernel
theorem dX10_whyNotOrders_149 : decode cX10_whyNotOrders 149 = .ok (.iadd, 1) := by decide +kernel
theorem dX10_whyNotOrders_150 : decode cX10_whyNotOrders 150 = .ok (.laload, 1) := by decide +kernel
theorem dX10_whyNotOrders_151 : decode cX10_whyNotOrders 151 = .ok (.invokevirtual 389, 3) := by decide +kernel
theorem dX10_whyNotOrders_154 : decode cX10_whyNotOrders 154 = .ok (.ifCond .ne 6, 3) := by decide +kernel
theorem dX10_whyNotOrders_157 : decode cX10_whyNotOrders 157 = .ok (.bipush (-2), 2) := by decide +kernel
theorem dX10_whyNotOrders_159 : decode cX10_whyNotOrders 159 = .ok (.ireturn, 1) := by decide +kernel
theorem dX10_whyNotOrders_160 : decode cX10_whyNotOrders 160 = .ok (.iinc 4 1, 3) := by decide +kernel
theorem dX10_whyNotOrders_163 : decode cX10_whyNotOrders 163 = .ok (.goto (-36), 3) := by decide +kernel
theorem dX10_whyNotOrders_166 : decode cX10_whyNotOrders 166 = .ok (.aload_n 0, 1) := by decide +kernel
theorem dX10_whyNotOrders_167 : decode cX10_whyNotOrders 167 = .ok (.invokevirtual 372, 3) := by decide +kernel
theorem dX10_whyNotOrders_170 : decode cX10_whyNotOrders 170 = .ok (.aload_n 0, 1) := by decide +kernel
theorem dX10_whyNotOrders_171 : decode cX10_whyNotOrders 171 = .ok (.bipush 24, 2) := by decide +kernel
theorem dX10_whyNotOrders_173 : decode cX10_whyNotOrders 173 = .ok (.iload_n 3, 1) := by decide +kernel
theorem dX10_whyNotOrders_174 : decode cX10_whyNotOrders 174 = .ok (.imul, 1) := by decide +kernel
theorem dX10_whyNotOrders_175 : decode cX10_whyNotOrders 175 = .ok (.iconst 1, 1) := by decide +kernel
theorem dX10_whyNotOrders_176 : decode cX10_whyNotOrders 176 = .ok (.isub, 1) := by decide +kernel
theorem dX10_whyNotOrders_177 : decode cX10_whyNotOrders 177 = .ok (.putfield 354, 3) := by decide +kernel
theorem dX10_whyNotOrders_180 : decode cX10_whyNotOrders 180 = .ok (.aload_n 0, 1) := by decide +kernel
theorem dX10_whyNotOrders_181 : decode cX10_whyNotOrders 181 = .ok (.invokevirtual 375, 3) := by decide +kernel
theorem dX10_whyNotOrders_184 : decode cX10_whyNotOrders 184 = .ok (.aload_n 0, 1) := by decide +kernel
theorem dX10_whyNotOrders_185 : decode cX10_whyNotOrders 185 = .ok (.iload_n 3, 1) := by decide +kernel
theorem dX10_whyNotOrders_186 : decode cX10_whyNotOrders 186 = .ok (.invokevirtual 363, 3) := by decide +kernel
theorem dX10_whyNotOrders_189 : decode cX10_whyNotOrders 189 = .ok (.aload_n 0, 1) := by decide +kernel
theorem dX10_whyNotOrders_190 : decode cX10_whyNotOrders 190 = .ok (.getfield 37, 3) := by decide +kernel
theorem dX10_whyNotOrders_193 : decode cX10_whyNotOrders 193 = .ok (.iconst 0, 1) := by decide +kernel
theorem dX10_whyNotOrders_194 : decode cX10_whyNotOrders 194 = .ok (.iaload, 1) := by decide +kernel
theorem dX10_whyNotOrders_195 : decode cX10_whyNotOrders 195 = .ok (.iconst 1, 1) := by decide +kernel
theorem dX10_whyNotOrders_196 : decode cX10_whyNotOrders 196 = .ok (.if_icmp .ne 66, 3) := by decide +kernel
theorem dX10_whyNotOrders_199 : decode cX10_whyNotOrders 199 = .ok (.iconst 0, 1) := by decide +kernel
theorem dX10_whyNotOrders_200 : decode cX10_whyNotOrders 200 = .ok (.istore 4, 2) := by decide +kernel
theorem dX10_whyNotOrders_202 : decode cX10_whyNotOrders 202 = .ok (.iload 4, 2) := by decide +kernel
theorem dX10_whyNotOrders_204 : decode cX10_whyNotOrders 204 = .ok (.aload_n 0, 1) := by decide +kernel
theorem dX10_whyNotOrders_205 : decode cX10_whyNotOrders 205 = .ok (.getfield 318, 3) := by decide +kernel
theorem dX10_whyNotOrders_208 : decode cX10_whyNotOrders 208 = .ok (.if_icmp .ge 54, 3) := by decide +kernel
theorem dX10_whyNotOrders_211 : decode cX10_whyNotOrders 211 = .ok (.aload_n 0, 1) := by decide +kernel
theorem dX10_whyNotOrders_212 : decode cX10_whyNotOrders 212 = .ok (.aload_n 0, 1) := by decide +kernel
theorem dX10_whyNotOrders_213 : decode cX10_whyNotOrders 213 = .ok (.getfield 56, 3) := by decide +kernel
theorem dX10_whyNotOrders_216 : decode cX10_whyNotOrders 216 = .ok (.iload 4, 2) := by decide +kernel
theorem dX10_whyNotOrders_218 : decode cX10_whyNotOrders 218 = .ok (.iaload, 1) := by decide +kernel
theorem dX10_whyNotOrders_219 : decode cX10_whyNotOrders 219 = .ok (.invokevirtual 293, 3) := by decide +kernel
theorem dX10_whyNotOrders_222 : decode cX10_whyNotOrders 222 = .ok (.bipush 24, 2) := by decide +kernel
theorem dX10_whyNotOrders_224 : decode cX10_whyNotOrders 224 = .ok (.idiv, 1) := by decide +kernel
theorem dX10_whyNotOrders_225 : decode cX10_whyNotOrders 225 = .ok (.iload_n 3, 1) := by decide +kernel
theorem dX10_whyNotOrders_226 : decode cX10_whyNotOrders 226 = .ok (.if_icmp .ne 30, 3) := by decide +kernel
theorem dX10_whyNotOrders_229 : decode cX10_whyNotOrders 229 = .ok (.aload_n 0, 1) := by decide +kernel
theorem dX10_whyNotOrders_230 : decode cX10_whyNotOrders 230 = .ok (.aload_n 0, 1) := by decide +kernel
theorem dX10_whyNotOrders_231 : decode cX10_whyNotOrders 231 = .ok (.getfield 56, 3) := by decide +kernel
theorem dX10_whyNotOrders_234 : decode cX10_whyNotOrders 234 = .ok (.iload 4, 2) := by decide +kernel
theorem dX10_whyNotOrders_236 : decode cX10_whyNotOrders 236 = .ok (.iaload, 1) := by decide +kernel
theorem dX10_whyNotOrders_237 : decode cX10_whyNotOrders 237 = .ok (.iconst 1, 1) := by decide +kernel
theorem dX10_whyNotOrders_238 : decode cX10_whyNotOrders 238 = .ok (.invokevirtual 285, 3) := by decide +kernel
theorem dX10_whyNotOrders_241 : decode cX10_whyNotOrders 241 = .ok (.iload_n 2, 1) := by decide +kernel
theorem dX10_whyNotOrders_242 : decode cX10_whyNotOrders 242 = .ok (.if_icmp .eq 14, 3) := by decide +kernel
theorem dX10_whyNotOrders_245 : decode cX10_whyNotOrders 245 = .ok (.aload_n 0, 1) := by decide +kernel
theorem dX10_whyNotOrders_246 : decode cX10_whyNotOrders 246 = .ok (.aload_n 0, 1) := by decide +kernel
theorem dX10_whyNotOrders_247 : decode cX10_whyNotOrders 247 = .ok (.getfield 56, 3) := by decide +kernel
theorem dX10_whyNotOrders_250 : decode cX10_whyNotOrders 250 = .ok (.iload 4, 2) := by decide +kernel
theorem dX10_whyNotOrders_252 : decode cX10_whyNotOrders 252 = .ok (.iaload, 1) := by decide +kernel
theorem dX10_whyNotOrders_253 : decode cX10_whyNotOrders 253 = .ok (.invokevirtual 428, 3) := by decide +kernel
theorem dX10_whyNotOrders_256 : decode cX10_whyNotOrders 256 = .ok (.iinc 4 1, 3) := by decide +kernel
theorem dX10_whyNotOrders_259 : decode cX10_whyNotOrders 259 = .ok (.goto (-57), 3) := by decide +kernel
theorem dX10_whyNotOrders_262 : decode cX10_whyNotOrders 262 = .ok (.aload_n 0, 1) := by decide +kernel
theorem dX10_whyNotOrders_263 : decode cX10_whyNotOrders 263 = .ok (.aload_n 0, 1) := by decide +kernel
theorem dX10_whyNotOrders_264 : decode cX10_whyNotOrders 264 = .ok (.getfield 59, 3) := by decide +kernel
theorem dX10_whyNotOrders_267 : decode cX10_whyNotOrders 267 = .ok (.aload_n 0, 1) := by decide +kernel
theorem dX10_whyNotOrders_268 : decode cX10_whyNotOrders 268 = .ok (.iload_n 2, 1) := by decide +kernel
theorem dX10_whyNotOrders_269 : decode cX10_whyNotOrders 269 = .ok (.invokevirtual 334, 3) := by decide +kernel
theorem dX10_whyNotOrders_272 : decode cX10_whyNotOrders 272 = .ok (.iaload, 1) := by decide +kernel
theorem dX10_whyNotOrders_273 : decode cX10_whyNotOrders 273 = .ok (.putfield 431, 3) := by decide +kernel
theorem dX10_whyNotOrders_276 : decode cX10_whyNotOrders 276 = .ok (.aload_n 0, 1) := by decide +kernel
theorem dX10_whyNotOrders_277 : decode cX10_whyNotOrders 277 = .ok (.iconst 0, 1) := by decide +kernel
theorem dX10_whyNotOrders_278 : decode cX10_whyNotOrders 278 = .ok (.putfield 434, 3) := by decide +kernel
theorem dX10_whyNotOrders_281 : decode cX10_whyNotOrders 281 = .ok (.iconst 0, 1) := by decide +kernel
theorem dX10_whyNotOrders_282 : decode cX10_whyNotOrders 282 = .ok (.istore 4, 2) := by decide +kernel
theorem dX10_whyNotOrders_284 : decode cX10_whyNotOrders 284 = .ok (.iload 4, 2) := by decide +kernel
theorem dX10_whyNotOrders_286 : decode cX10_whyNotOrders 286 = .ok (.bipush 13, 2) := by decide +kernel
theorem dX10_whyNotOrders_288 : decode cX10_whyNotOrders 288 = .ok (.if_icmp .ge 17, 3) := by decide +kernel
theorem dX10_whyNotOrders_291 : decode cX10_whyNotOrders 291 = .ok (.aload_n 0, 1) := by decide +kernel
theorem dX10_whyNotOrders_292 : decode cX10_whyNotOrders 292 = .ok (.getfield 101, 3) := by decide +kernel
theorem dX10_whyNotOrders_295 : decode cX10_whyNotOrders 295 = .ok (.iload 4, 2) := by decide +kernel
theorem dX10_whyNotOrders_297 : decode cX10_whyNotOrders 297 = .ok (.iconst (-1), 1) := by decide +kernel
theorem dX10_whyNotOrders_298 : decode cX10_whyNotOrders 298 = .ok (.iastore, 1) := by decide +kernel
theorem dX10_whyNotOrders_299 : decode cX10_whyNotOrders 299 = .ok (.iinc 4 1, 3) := by decide +kernel
theorem dX10_whyNotOrders_302 : decode cX10_whyNotOrders 302 = .ok (.goto (-18), 3) := by decide +kernel
theorem dX10_whyNotOrders_305 : decode cX10_whyNotOrders 305 = .ok (.aload_n 0, 1) := by decide +kernel
theorem dX10_whyNotOrders_306 : decode cX10_whyNotOrders 306 = .ok (.iload_n 1, 1) := by decide +kernel
theorem dX10_whyNotOrders_307 : decode cX10_whyNotOrders 307 = .ok (.iload_n 2, 1) := by decide +kernel
theorem dX10_whyNotOrders_308 : decode cX10_whyNotOrders 308 = .ok (.iload_n 3, 1) := by decide +kernel
theorem dX10_whyNotOrders_309 : decode cX10_whyNotOrders 309 = .ok (.iconst 0, 1) := by decide +kernel
theorem dX10_whyNotOrders_310 : decode cX10_whyNotOrders 310 = .ok (.iconst 0, 1) := by decide +kernel
theorem dX10_whyNotOrders_311 : decode cX10_whyNotOrders 311 = .ok (.invokevirtual 437, 3) := by decide +kernel
theorem dX10_whyNotOrders_314 : decode cX10_whyNotOrders 314 = .ok (.iconst 0, 1) := by decide +kernel
theorem dX10_whyNotOrders_315 : decode cX10_whyNotOrders 315 = .ok (.ireturn, 1) := by decide +kernel
theorem dX10_goesAll_0 : decode cX10_goesAll 0 = .ok (.iconst 0, 1) := by decide +kernel
theorem dX10_goesAll_1 : decode cX10_goesAll 1 = .ok (.istore_n 2, 1) := by decide +kernel
theorem dX10_goesAll_2 : decode cX10_goesAll 2 = .ok (.iload_n 2, 1) := by decide +kernel
theorem dX10_goesAll_3 : decode cX10_goesAll 3 = .ok (.aload_n 0, 1) := by decide +kernel
theorem dX10_goesAll_4 : decode cX10_goesAll 4 = .ok (.iload_n 1, 1) := by decide +kernel
theorem dX10_goesAll_5 : decode cX10_goesAll 5 = .ok (.iconst 4, 1) := by decide +kernel
theorem dX10_goesAll_6 : decode cX10_goesAll 6 = .ok (.invokevirtual 285, 3) := by decide +kernel
theorem dX10_goesAll_9 : decode cX10_goesAll 9 = .ok (.aload_n 0, 1) := by decide +kernel
theorem dX10_goesAll_10 : decode cX10_goesAll 10 = .ok (.iload_n 1, 1) := by decide +kernel
theorem dX10_goesAll_11 : decode cX10_goesAll 11 = .ok (.iconst 5, 1) := by decide +kernel
theorem dX10_goesAll_12 : decode cX10_goesAll 12 = .ok (.invokevirtual 285, 3) := by decide +kernel
theorem dX10_goesAll_15 : decode cX10_goesAll 15 = .ok (.iadd, 1) := by decide +kernel
theorem dX10_goesAll_16 : decode cX10_goesAll 16 = .ok (.if_icmp .ge 20, 3) := by decide +kernel
theorem dX10_goesAll_19 : decode cX10_goesAll 19 = .ok (.aload_n 0, 1) := by decide +kernel
theorem dX10_goesAll_20 : decode cX10_goesAll 20 = .ok (.iload_n 1, 1) := by decide +kernel
theorem dX10_goesAll_21 : decode cX10_goesAll 21 = .ok (.iload_n 2, 1) := by decide +kernel
theorem dX10_goesAll_22 : decode cX10_goesAll 22 = .ok (.aload_n 0, 1) := by decide +kernel
theorem dX10_goesAll_23 : decode cX10_goesAll 23 = .ok (.iload_n 1, 1) := by decide +kernel
theorem dX10_goesAll_24 : decode cX10_goesAll 24 = .ok (.invokevirtual 293, 3) := by decide +kernel
theorem dX10_goesAll_27 : decode cX10_goesAll 27 = .ok (.invokevirtual 366, 3) := by decide +kernel
theorem dX10_goesAll_30 : decode cX10_goesAll 30 = .ok (.iinc 2 1, 3) := by decide +kernel
theorem dX10_goesAll_33 : decode cX10_goesAll 33 = .ok (.goto (-31), 3) := by decide +kernel
theorem dX10_goesAll_36 : decode cX10_goesAll 36 = .ok (.return_, 1) := by decide +kernel
theorem dX10_tries_0 : decode cX10_tries 0 = .ok (.iload 4, 2) := by decide +kernel
theorem dX10_tries_2 : decode cX10_tries 2 = .ok (.aload_n 0, 1) := by decide +kernel
theorem dX10_tries_3 : decode cX10_tries 3 = .ok (.getfield 425, 3) := by decide +kernel
theorem dX10_tries_6 : decode cX10_tries 6 = .ok (.if_icmp .ne 105, 3) := by decide +kernel
theorem dX10_tries_9 : decode cX10_tries 9 = .ok (.aload_n 0, 1) := by decide +kernel
theorem dX10_tries_10 : decode cX10_tries 10 = .ok (.iload_n 1, 1) := by decide +kernel
theorem dX10_tries_11 : decode cX10_tries 11 = .ok (.iload_n 2, 1) := by decide +kernel
theorem dX10_tries_12 : decode cX10_tries 12 = .ok (.iload_n 3, 1) := by decide +kernel
theorem dX10_tries_13 : decode cX10_tries 13 = .ok (.invokevirtual 441, 3) := by decide +kernel
theorem dX10_tries_16 : decode cX10_tries 16 = .ok (.ifCond .ne 4, 3) := by decide +kernel
theorem dX10_tries_19 : decode cX10_tries 19 = .ok (.return_, 1) := by decide +kernel
theorem dX10_tries_20 : decode cX10_tries 20 = .ok (.iconst 0, 1) := by decide +kernel
theorem dX10_tries_21 : decode cX10_tries 21 = .ok (.istore 6, 2) := by decide +kernel
theorem dX10_tries_23 : decode cX10_tries 23 = .ok (.iload 6, 2) := by decide +kernel
theorem dX10_tries_25 : decode cX10_tries 25 = .ok (.iload 4, 2) := by decide +kernel
theorem dX10_tries_27 : decode cX10_tries 27 = .ok (.if_icmp .ge 73, 3) := by decide +kernel
theorem dX10_tries_30 : decode cX10_tries 30 = .ok (.aload_n 0, 1) := by decide +kernel
theorem dX10_tries_31 : decode cX10_tries 31 = .ok (.getfield 434, 3) := by decide +kernel
theorem dX10_tries_34 : decode cX10_tries 34 = .ok (.ifCond .ne 17, 3) := by decide +kernel
theorem dX10_tries_37 : decode cX10_tries 37 = .ok (.aload_n 0, 1) := by decide +kernel
theorem dX10_tries_38 : decode cX10_tries 38 = .ok (.getfield 98, 3) := by decide +kernel
theorem dX10_tries_41 : decode cX10_tries 41 = .ok (.iload 6, 2) := by decide +kernel
theorem dX10_tries_43 : decode cX10_tries 43 = .ok (.aload_n 0, 1) := by decide +kernel
theorem dX10_tries_44 : decode cX10_tries 44 = .ok (.getfield 95, 3) := by decide +kernel
theorem dX10_tries_47 : decode cX10_tries 47 = .ok (.iload 6, 2) := by decide +kernel
theorem dX10_tries_49 : decode cX10_tries 49 = .ok (.iaload, 1) := by decide +kernel
theorem dX10_tries_50 : decode cX10_tries 50 = .ok (.iastore, 1) := by decide +kernel
theorem dX10_tries_51 : decode cX10_tries 51 = .ok (.aload_n 0, 1) := by decide +kernel
theorem dX10_tries_52 : decode cX10_tries 52 = .ok (.getfield 101, 3) := by decide +kernel
theorem dX10_tries_55 : decode cX10_tries 55 = .ok (.aload_n 0, 1) := by decide +kernel
theorem dX10_tries_56 : decode cX10_tries 56 = .ok (.getfield 95, 3) := by decide +kernel
theorem dX10_tries_59 : decode cX10_tries 59 = .ok (.iload 6, 2) := by decide +kernel
theorem dX10_tries_61 : decode cX10_tries 61 = .ok (.iaload, 1) := by decide +kernel
theorem dX10_tries_62 : decode cX10_tries 62 = .ok (.aload_n 0, 1) := by decide +kernel
theorem dX10_tries_63 : decode cX10_tries 63 = .ok (.getfield 434, 3) := by decide +kernel
theorem dX10_tries_66 : decode cX10_tries 66 = .ok (.ifCond .eq 20, 3) := by decide +kernel
theorem dX10_tries_69 : decode cX10_tries 69 = .ok (.aload_n 0, 1) := by decide +kernel
theorem dX10_tries_70 : decode cX10_tries 70 = .ok (.getfield 101, 3) := by decide +kernel
theorem dX10_tries_73 : decode cX10_tries 73 = .ok (.aload_n 0, 1) := by decide +kernel
theorem dX10_tries_74 : decode cX10_tries 74 = .ok (.getfield 95, 3) := by decide +kernel
theorem dX10_tries_77 : decode cX10_tries 77 = .ok (.iload 6, 2) := by decide +kernel
theorem dX10_tries_79 : decode cX10_tries 79 = .ok (.iaload, 1) := by decide +kernel
theorem dX10_tries_80 : decode cX10_tries 80 = .ok (.iaload, 1) := by decide +kernel
theorem dX10_tries_81 : decode cX10_tries 81 = .ok (.iload 6, 2) := by decide +kernel
theorem dX10_tries_83 : decode cX10_tries 83 = .ok (.if_icmp .ne 8, 3) := by decide +kernel
theorem dX10_tries_86 : decode cX10_tries 86 = .ok (.iload 6, 2) := by decide +kernel
theorem dX10_tries_88 : decode cX10_tries 88 = .ok (.goto 5, 3) := by decide +kernel
theorem dX10_tries_91 : decode cX10_tries 91 = .ok (.bipush 99, 2) := by decide +kernel
theorem dX10_tries_93 : decode cX10_tries 93 = .ok (.iastore, 1) := by decide +kernel
theorem dX10_tries_94 : decode cX10_tries 94 = .ok (.iinc 6 1, 3) := by decide +kernel
theorem dX10_tries_97 : decode cX10_tries 97 = .ok (.goto (-74), 3) := by decide +kernel
theorem dX10_tries_100 : decode cX10_tries 100 = .ok (.aload_n 0, 1) := by decide +kernel
theorem dX10_tries_101 : decode cX10_tries 101 = .ok (.dup, 1) := by decide +kernel
theorem dX10_tries_102 : decode cX10_tries 102 = .ok (.getfield 434, 3) := by decide +kernel
theorem dX10_tries_105 : decode cX10_tries 105 = .ok (.iconst 1, 1) := by decide +kernel
theorem dX10_tries_106 : decode cX10_tries 106 = .ok (.iadd, 1) := by decide +kernel
theorem dX10_tries_107 : decode cX10_tries 107 = .ok (.putfield 434, 3) := by decide +kernel
theorem dX10_tries_110 : decode cX10_tries 110 = .ok (.return_, 1) := by decide +kernel
theorem dX10_tries_111 : decode cX10_tries 111 = .ok (.iconst 0, 1) := by decide +kernel
theorem dX10_tries_112 : decode cX10_tries 112 = .ok (.istore 6, 2) := by decide +kernel
theorem dX10_tries_114 : decode cX10_tries 114 = .ok (.iload 6, 2) := by decide +kernel
theorem dX10_tries_116 : decode cX10_tries 116 = .ok (.aload_n 0, 1) := by decide +kernel
theorem dX10_tries_117 : decode cX10_tries 117 = .ok (.getfield 425, 3) := by decide +kernel
theorem dX10_tries_120 : decode cX10_tries 120 = .ok (.if_icmp .ge 55, 3) := by decide +kernel
theorem dX10_tries_123 : decode cX10_tries 123 = .ok (.iload 5, 2) := by decide +kernel
theorem dX10_tries_125 : decode cX10_tries 125 = .ok (.iload 6, 2) := by decide +kernel
theorem dX10_tries_127 : decode cX10_tries 127 = .ok (.ishr, 1) := by decide +kernel
theorem dX10_tries_128 : decode cX10_tries 128 = .ok (.iconst 1, 1) := by decide +kernel
theorem dX10_tries_129 : decode cX10_tries 129 = .ok (.iand, 1) := by decide +kernel
theorem dX10_tries_130 : decode cX10_tries 130 = .ok (.iconst 1, 1) := by decide +kernel
theorem dX10_tries_131 : decode cX10_tries 131 = .ok (.if_icmp .ne 6, 3) := by decide +kernel
theorem dX10_tries_134 : decode cX10_tries 134 = .ok (.goto 35, 3) := by decide +kernel
theorem dX10_tries_137 : decode cX10_tries 137 = .ok (.aload_n 0, 1) := by decide +kernel
theorem dX10_tries_138 : decode cX10_tries 138 = .ok (.getfield 95, 3) := by decide +kernel
theorem dX10_tries_141 : decode cX10_tries 141 = .ok (.iload 4, 2) := by decide +kernel
theorem dX10_tries_143 : decode cX10_tries 143 = .ok (.aload_n 0, 1) := by decide +kernel
theorem dX10_tries_144 : decode cX10_tries 144 = .ok (.getfield 92, 3) := by decide +kernel
theorem dX10_tries_147 : decode cX10_tries 147 = .ok (.iload 6, 2) := by decide +kernel
theorem dX10_tries_149 : decode cX10_tries 149 = .ok (.iaload, 1) := by decide +kernel
theorem dX10_tries_150 : decode cX10_tries 150 = .ok (.iastore, 1) := by decide +kernel
theorem dX10_tries_151 : decode cX10_tries 151 = .ok (.aload_n 0, 1) := by decide +kernel
theorem dX10_tries_152 : decode cX10_tries 152 = .ok (.iload_n 1, 1) := by decide +kernel
theorem dX10_tries_153 : decode cX10_tries 153 = .ok (.iload_n 2, 1) := by decide +kernel
theorem dX10_tries_154 : decode cX10_tries 154 = .ok (.iload_n 3, 1) := by decide +kernel
theorem dX10_tries_155 : decode cX10_tries 155 = .ok (.iload 4, 2) := by decide +kernel
theorem dX10_tries_157 : decode cX10_tries 157 = .ok (.iconst 1, 1) := by decide +kernel
theorem dX10_tries_158 : decode cX10_tries 158 = .ok (.iadd, 1) := by decide +kernel
theorem dX10_tries_159 : decode cX10_tries 159 = .ok (.iload 5, 2) := by decide +kernel
theorem dX10_tries_161 : decode cX10_tries 161 = .ok (.iconst 1, 1) := by decide +kernel
theorem dX10_tries_162 : decode cX10_tries 162 = .ok (.iload 6, 2) := by decide +kernel
theorem dX10_tries_164 : decode cX10_tries 164 = .ok (.ishl, 1) := by decide +kernel
theorem dX10_tries_165 : decode cX10_tries 165 = .ok (.ior, 1) := by decide +kernel
theorem dX10_tries_166 : decode cX10_tries 166 = .ok (.invokevirtual 437, 3) := by decide +kernel
theorem dX10_tries_169 : decode cX10_tries 169 = .ok (.iinc 6 1, 3) := by decide +kernel
theorem dX10_tries_172 : decode cX10_tries 172 = .ok (.goto (-58), 3) := by decide +kernel
theorem dX10_tries_175 : decode cX10_tries 175 = .ok (.return_, 1) := by decide +kernel
theorem dX10_agrees_0 : decode cX10_agrees 0 = .ok (.aload_n 0, 1) := by decide +kernel
theorem dX10_agrees_1 : decode cX10_agrees 1 = .ok (.getfield 59, 3) := by decide +kernel
theorem dX10_agrees_4 : decode cX10_agrees 4 = .ok (.aload_n 0, 1) := by decide +kernel
theorem dX10_agrees_5 : decode cX10_agrees 5 = .ok (.iload_n 2, 1) := by decide +kernel
theorem dX10_agrees_6 : decode cX10_agrees 6 = .ok (.invokevirtual 334, 3) := by decide +kernel
theorem dX10_agrees_9 : decode cX10_agrees 9 = .ok (.aload_n 0, 1) := by decide +kernel
theorem dX10_agrees_10 : decode cX10_agrees 10 = .ok (.getfield 431, 3) := by decide +kernel
theorem dX10_agrees_13 : decode cX10_agrees 13 = .ok (.iastore, 1) := by decide +kernel
theorem dX10_agrees_14 : decode cX10_agrees 14 = .ok (.aload_n 0, 1) := by decide +kernel
theorem dX10_agrees_15 : decode cX10_agrees 15 = .ok (.getfield 62, 3) := by decide +kernel
theorem dX10_agrees_18 : decode cX10_agrees 18 = .ok (.bipush 9, 2) := by decide +kernel
theorem dX10_agrees_20 : decode cX10_agrees 20 = .ok (.iload_n 2, 1) := by decide +kernel
theorem dX10_agrees_21 : decode cX10_agrees 21 = .ok (.imul, 1) := by decide +kernel
theorem dX10_agrees_22 : decode cX10_agrees 22 = .ok (.iload_n 3, 1) := by decide +kernel
theorem dX10_agrees_23 : decode cX10_agrees 23 = .ok (.iadd, 1) := by decide +kernel
theorem dX10_agrees_24 : decode cX10_agrees 24 = .ok (.iconst 0, 1) := by decide +kernel
theorem dX10_agrees_25 : decode cX10_agrees 25 = .ok (.iastore, 1) := by decide +kernel
theorem dX10_agrees_26 : decode cX10_agrees 26 = .ok (.aload_n 0, 1) := by decide +kernel
theorem dX10_agrees_27 : decode cX10_agrees 27 = .ok (.iconst 0, 1) := by decide +kernel
theorem dX10_agrees_28 : decode cX10_agrees 28 = .ok (.putfield 328, 3) := by decide +kernel
theorem dX10_agrees_31 : decode cX10_agrees 31 = .ok (.iconst 0, 1) := by decide +kernel
theorem dX10_agrees_32 : decode cX10_agrees 32 = .ok (.istore 4, 2) := by decide +kernel
theorem dX10_agrees_34 : decode cX10_agrees 34 = .ok (.iload 4, 2) := by decide +kernel
theorem dX10_agrees_36 : decode cX10_agrees 36 = .ok (.aload_n 0, 1) := by decide +kernel
theorem dX10_agrees_37 : decode cX10_agrees 37 = .ok (.getfield 425, 3) := by decide +kernel
theorem dX10_agrees_40 : decode cX10_agrees 40 = .ok (.if_icmp .ge 20, 3) := by decide +kernel
theorem dX10_agrees_43 : decode cX10_agrees 43 = .ok (.aload_n 0, 1) := by decide +kernel
theorem dX10_agrees_44 : decode cX10_agrees 44 = .ok (.aload_n 0, 1) := by decide +kernel
theorem dX10_agrees_45 : decode cX10_agrees 45 = .ok (.getfield 95, 3) := by decide +kernel
theorem dX10_agrees_48 : decode cX10_agrees 48 = .ok (.iload 4, 2) := by decide +kernel
theorem dX10_agrees_50 : decode cX10_agrees 50 = .ok (.iaload, 1) := by decide +kernel
theorem dX10_agrees_51 : decode cX10_agrees 51 = .ok (.invokevirtual 428, 3) := by decide +kernel
theorem dX10_agrees_54 : decode cX10_agrees 54 = .ok (.iinc 4 1, 3) := by decide +kernel
theorem dX10_agrees_57 : decode cX10_agrees 57 = .ok (.goto (-23), 3) := by decide +kernel
theorem dX10_agrees_60 : decode cX10_agrees 60 = .ok (.aload_n 0, 1) := by decide +kernel
theorem dX10_agrees_61 : decode cX10_agrees 61 = .ok (.getfield 328, 3) := by decide +kernel
theorem dX10_agrees_64 : decode cX10_agrees 64 = .ok (.aload_n 0, 1) := by decide +kernel
theorem dX10_agrees_65 : decode cX10_agrees 65 = .ok (.getfield 13, 3) := by decide +kernel
theorem dX10_agrees_68 : decode cX10_agrees 68 = .ok (.iload_n 1, 1) := by decide +kernel
theorem dX10_agrees_69 : decode cX10_agrees 69 = .ok (.iaload, 1) := by decide +kernel
theorem dX10_agrees_70 : decode cX10_agrees 70 = .ok (.if_icmp .eq 5, 3) := by decide +kernel
theorem dX10_agrees_73 : decode cX10_agrees 73 = .ok (.iconst 0, 1) := by decide +kernel
theorem dX10_agrees_74 : decode cX10_agrees 74 = .ok (.ireturn, 1) := by decide +kernel
theorem dX10_agrees_75 : decode cX10_agrees 75 = .ok (.iconst 0, 1) := by decide +kernel
theorem dX10_agrees_76 : decode cX10_agrees 76 = .ok (.istore 4, 2) := by decide +kernel
theorem dX10_agrees_78 : decode cX10_agrees 78 = .ok (.iload 4, 2) := by decide +kernel
theorem dX10_agrees_80 : decode cX10_agrees 80 = .ok (.aload_n 0, 1) := by decide +kernel
theorem dX10_agrees_81 : decode cX10_agrees 81 = .ok (.getfield 328, 3) := by decide +kernel
theorem dX10_agrees_84 : decode cX10_agrees 84 = .ok (.if_icmp .ge 45, 3) := by decide +kernel
theorem dX10_agrees_87 : decode cX10_agrees 87 = .ok (.aload_n 0, 1) := by decide +kernel
theorem dX10_agrees_88 : decode cX10_agrees 88 = .ok (.aload_n 0, 1) := by decide +kernel
theorem dX10_agrees_89 : decode cX10_agrees 89 = .ok (.getfield 74, 3) := by decide +kernel
theorem dX10_agrees_92 : decode cX10_agrees 92 = .ok (.iconst 4, 1) := by decide +kernel
theorem dX10_agrees_93 : decode cX10_agrees 93 = .ok (.iload 4, 2) := by decide +kernel
theorem dX10_agrees_95 : decode cX10_agrees 95 = .ok (.imul, 1) := by decide +kernel
theorem dX10_agrees_96 : decode cX10_agrees 96 = .ok (.iconst 2, 1) := by decide +kernel
theorem dX10_agrees_97 : decode cX10_agrees 97 = .ok (.iadd, 1) := by decide +kernel
theorem dX10_agrees_98 : decode cX10_agrees 98 = .ok (.iaload, 1) := by decide +kernel
theorem dX10_agrees_99 : decode cX10_agrees 99 = .ok (.bipush 6, 2) := by decide +kernel
theorem dX10_agrees_101 : decode cX10_agrees 101 = .ok (.invokevirtual 285, 3) := by decide +kernel
theorem dX10_agrees_104 : decode cX10_agrees 104 = .ok (.i2l, 1) := by decide +kernel
theorem dX10_agrees_105 : decode cX10_agrees 105 = .ok (.aload_n 0, 1) := by decide +kernel
theorem dX10_agrees_106 : decode cX10_agrees 106 = .ok (.getfield 16, 3) := by decide +kernel
theorem dX10_agrees_109 : decode cX10_agrees 109 = .ok (.bipush 60, 2) := by decide +kernel
theorem dX10_agrees_111 : decode cX10_agrees 111 = .ok (.iload_n 1, 1) := by decide +kernel
theorem dX10_agrees_112 : decode cX10_agrees 112 = .ok (.imul, 1) := by decide +kernel
theorem dX10_agrees_113 : decode cX10_agrees 113 = .ok (.iload 4, 2) := by decide +kernel
theorem dX10_agrees_115 : decode cX10_agrees 115 = .ok (.iadd, 1) := by decide +kernel
theorem dX10_agrees_116 : decode cX10_agrees 116 = .ok (.laload, 1) := by decide +kernel
theorem dX10_agrees_117 : decode cX10_agrees 117 = .ok (.lcmp, 1) := by decide +kernel
theorem dX10_agrees_118 : decode cX10_agrees 118 = .ok (.ifCond .eq 5, 3) := by decide +kernel
theorem dX10_agrees_121 : decode cX10_agrees 121 = .ok (.iconst 0, 1) := by decide +kernel
theorem dX10_agrees_122 : decode cX10_agrees 122 = .ok (.ireturn, 1) := by decide +kernel
theorem dX10_agrees_123 : decode cX10_agrees 123 = .ok (.iinc 4 1, 3) := by decide +kernel
theorem dX10_agrees_126 : decode cX10_agrees 126 = .ok (.goto (-48), 3) := by decide +kernel
theorem dX10_agrees_129 : decode cX10_agrees 129 = .ok (.iconst 1, 1) := by decide +kernel
theorem dX10_agrees_130 : decode cX10_agrees 130 = .ok (.ireturn, 1) := by decide +kernel
theorem dX10_orders_0 : decode cX10_orders 0 = .ok (.aload_n 0, 1) := by decide +kernel
theorem dX10_orders_1 : decode cX10_orders 1 = .ok (.iconst 0, 1) := by decide +kernel
theorem dX10_orders_2 : decode cX10_orders 2 = .ok (.putfield 104, 3) := by decide +kernel
theorem dX10_orders_5 : decode cX10_orders 5 = .ok (.aload_n 0, 1) := by decide +kernel
theorem dX10_orders_6 : decode cX10_orders 6 = .ok (.iload_n 1, 1) := by decide +kernel
theorem dX10_orders_7 : decode cX10_orders 7 = .ok (.iload_n 2, 1) := by decide +kernel
theorem dX10_orders_8 : decode cX10_orders 8 = .ok (.iload_n 3, 1) := by decide +kernel
theorem dX10_orders_9 : decode cX10_orders 9 = .ok (.invokevirtual 444, 3) := by decide +kernel
theorem dX10_orders_12 : decode cX10_orders 12 = .ok (.istore 4, 2) := by decide +kernel
theorem dX10_orders_14 : decode cX10_orders 14 = .ok (.iload 4, 2) := by decide +kernel
theorem dX10_orders_16 : decode cX10_orders 16 = .ok (.ifCond .eq 8, 3) := by decide +kernel
theorem dX10_orders_19 : decode cX10_orders 19 = .ok (.iload 4, 2) := by decide +kernel
theorem dX10_orders_21 : decode cX10_orders 21 = .ok (.goto 7, 3) := by decide +kernel
theorem dX10_orders_24 : decode cX10_orders 24 = .ok (.aload_n 0, 1) := by decide +kernel
theorem dX10_orders_25 : decode cX10_orders 25 = .ok (.getfield 434, 3) := by decide +kernel
theorem dX10_orders_28 : decode cX10_orders 28 = .ok (.ireturn, 1) := by decide +kernel
theorem dX10_order_0 : decode cX10_order 0 = .ok (.aload_n 0, 1) := by decide +kernel
theorem dX10_order_1 : decode cX10_order 1 = .ok (.iconst 0, 1) := by decide +kernel
theorem dX10_order_2 : decode cX10_order 2 = .ok (.putfield 104, 3) := by decide +kernel
theorem dX10_order_5 : decode cX10_order 5 = .ok (.aload_n 0, 1) := by decide +kernel
theorem dX10_order_6 : decode cX10_order 6 = .ok (.iload_n 1, 1) := by decide +kernel
theorem dX10_order_7 : decode cX10_order 7 = .ok (.iload_n 2, 1) := by decide +kernel
theorem dX10_order_8 : decode cX10_order 8 = .ok (.iload_n 3, 1) := by decide +kernel
theorem dX10_order_9 : decode cX10_order 9 = .ok (.invokevirtual 444, 3) := by decide +kernel
theorem dX10_order_12 : decode cX10_order 12 = .ok (.istore 5, 2) := by decide +kernel
theorem dX10_order_14 : decode cX10_order 14 = .ok (.iload 5, 2) := by decide +kernel
theorem dX10_order_16 : decode cX10_order 16 = .ok (.ifCond .eq 8, 3) := by decide +kernel
theorem dX10_order_19 : decode cX10_order 19 = .ok (.iload 5, 2) := by decide +kernel
theorem dX10_order_21 : decode cX10_order 21 = .ok (.goto 38, 3) := by decide +kernel
theorem dX10_order_24 : decode cX10_order 24 = .ok (.aload_n 0, 1) := by decide +kernel
theorem dX10_order_25 : decode cX10_order 25 = .ok (.getfield 434, 3) := by decide +kernel
theorem dX10_order_28 : decode cX10_order 28 = .ok (.ifCond .le 30, 3) := by decide +kernel
theorem dX10_order_31 : decode cX10_order 31 = .ok (.iload 4, 2) := by decide +kernel
theorem dX10_order_33 : decode cX10_order 33 = .ok (.i2l, 1) := by decide +kernel
theorem dX10_order_34 : decode cX10_order 34 = .ok (.lconst 0, 1) := by decide +kernel
theorem dX10_order_35 : decode cX10_order 35 = .ok (.aload_n 0, 1) := by decide +kernel
theorem dX10_order_36 : decode cX10_order 36 = .ok (.getfield 425, 3) := by decide +kernel
theorem dX10_order_39 : decode cX10_order 39 = .ok (.iconst 1, 1) := by decide +kernel
theorem dX10_order_40 : decode cX10_order 40 = .ok (.isub, 1) := by decide +kernel
theorem dX10_order_41 : decode cX10_order 41 = .ok (.i2l, 1) := by decide +kernel
theorem dX10_order_42 : decode cX10_order 42 = .ok (.invokestatic 109, 3) := by decide +kernel
theorem dX10_order_45 : decode cX10_order 45 = .ok (.ifCond .eq 13, 3) := by decide +kernel
theorem dX10_order_48 : decode cX10_order 48 = .ok (.aload_n 0, 1) := by decide +kernel
theorem dX10_order_49 : decode cX10_order 49 = .ok (.getfield 98, 3) := by decide +kernel
theorem dX10_order_52 : decode cX10_order 52 = .ok (.iload 4, 2) := by decide +kernel
theorem dX10_order_54 : decode cX10_order 54 = .ok (.iaload, 1) := by decide +kernel
theorem dX10_order_55 : decode cX10_order 55 = .ok (.goto 4, 3) := by decide +kernel
theorem dX10_order_58 : decode cX10_order 58 = .ok (.iconst (-1), 1) := by decide +kernel
theorem dX10_order_59 : decode cX10_order 59 = .ok (.ireturn, 1) := by decide +kernel
theorem dX10_sure_0 : decode cX10_sure 0 = .ok (.aload_n 0, 1) := by decide +kernel
theorem dX10_sure_1 : decode cX10_sure 1 = .ok (.iconst 0, 1) := by decide +kernel
theorem dX10_sure_2 : decode cX10_sure 2 = .ok (.putfield 104, 3) := by decide +kernel
theorem dX10_sure_5 : decode cX10_sure 5 = .ok (.aload_n 0, 1) := by decide +kernel
theorem dX10_sure_6 : decode cX10_sure 6 = .ok (.iload 4, 2) := by decide +kernel
theorem dX10_sure_8 : decode cX10_sure 8 = .ok (.invokevirtual 288, 3) := by decide +kernel
theorem dX10_sure_11 : decode cX10_sure 11 = .ok (.ifCond .ne 6, 3) := by decide +kernel
theorem dX10_sure_14 : decode cX10_sure 14 = .ok (.bipush (-2), 2) := by decide +kernel
theorem dX10_sure_16 : decode cX10_sure 16 = .ok (.ireturn, 1) := by decide +kernel
theorem dX10_sure_17 : decode cX10_sure 17 = .ok (.aload_n 0, 1) := by decide +kernel
theorem dX10_sure_18 : decode cX10_sure 18 = .ok (.iload_n 1, 1) := by decide +kernel
theorem dX10_sure_19 : decode cX10_sure 19 = .ok (.iload_n 2, 1) := by decide +kernel
theorem dX10_sure_20 : decode cX10_sure 20 = .ok (.iload_n 3, 1) := by decide +kernel
theorem dX10_sure_21 : decode cX10_sure 21 = .ok (.invokevirtual 444, 3) := by decide +kernel
theorem dX10_sure_24 : decode cX10_sure 24 = .ok (.istore 5, 2) := by decide +kernel
theorem dX10_sure_26 : decode cX10_sure 26 = .ok (.iload 5, 2) := by decide +kernel
theorem dX10_sure_28 : decode cX10_sure 28 = .ok (.ifCond .eq 8, 3) := by decide +kernel
theorem dX10_sure_31 : decode cX10_sure 31 = .ok (.iload 5, 2) := by decide +kernel
theorem dX10_sure_33 : decode cX10_sure 33 = .ok (.goto 26, 3) := by decide +kernel
theorem dX10_sure_36 : decode cX10_sure 36 = .ok (.aload_n 0, 1) := by decide +kernel
theorem dX10_sure_37 : decode cX10_sure 37 = .ok (.getfield 101, 3) := by decide +kernel
theorem dX10_sure_40 : decode cX10_sure 40 = .ok (.iload 4, 2) := by decide +kernel
theorem dX10_sure_42 : decode cX10_sure 42 = .ok (.iaload, 1) := by decide +kernel
theorem dX10_sure_43 : decode cX10_sure 43 = .ok (.bipush 99, 2) := by decide +kernel
theorem dX10_sure_45 : decode cX10_sure 45 = .ok (.if_icmp .ne 7, 3) := by decide +kernel
theorem dX10_sure_48 : decode cX10_sure 48 = .ok (.iconst (-1), 1) := by decide +kernel
theorem dX10_sure_49 : decode cX10_sure 49 = .ok (.goto 10, 3) := by decide +kernel
theorem dX10_sure_52 : decode cX10_sure 52 = .ok (.aload_n 0, 1) := by decide +kernel
theorem dX10_sure_53 : decode cX10_sure 53 = .ok (.getfield 101, 3) := by decide +kernel
theorem dX10_sure_56 : decode cX10_sure 56 = .ok (.iload 4, 2) := by decide +kernel
theorem dX10_sure_58 : decode cX10_sure 58 = .ok (.iaload, 1) := by decide +kernel
theorem dX10_sure_59 : decode cX10_sure 59 = .ok (.ireturn, 1) := by decide +kernel
theorem dX10_whyNotCounts_0 : decode cX10_whyNotCounts 0 = .ok (.iload_n 1, 1) := by decide +kernel
theorem dX10_whyNotCounts_1 : decode cX10_whyNotCounts 1 = .ok (.invokestatic 113, 3) := by decide +kernel
theorem dX10_whyNotCounts_4 : decode cX10_whyNotCounts 4 = .ok (.ifCond .eq 11, 3) := by decide +kernel
theorem dX10_whyNotCounts_7 : decode cX10_whyNotCounts 7 = .ok (.aload_n 0, 1) := by decide +kernel
theorem dX10_whyNotCounts_8 : decode cX10_whyNotCounts 8 = .ok (.iload_n 2, 1) := by decide +kernel
theorem dX10_whyNotCounts_9 : decode cX10_whyNotCounts 9 = .ok (.invokevirtual 381, 3) := by decide +kernel
theorem dX10_whyNotCounts_12 : decode cX10_whyNotCounts 12 = .ok (.ifCond .ne 6, 3) := by decide +kernel
theorem dX10_whyNotCounts_15 : decode cX10_whyNotCounts 15 = .ok (.bipush (-2), 2) := by decide +kernel
theorem dX10_whyNotCounts_17 : decode cX10_whyNotCounts 17 = .ok (.ireturn, 1) := by decide +kernel
theorem dX10_whyNotCounts_18 : decode cX10_whyNotCounts 18 = .ok (.aload_n 0, 1) := by decide +kernel
theorem dX10_whyNotCounts_19 : decode cX10_whyNotCounts 19 = .ok (.getfield 7, 3) := by decide +kernel
theorem dX10_whyNotCounts_22 : decode cX10_whyNotCounts 22 = .ok (.iload_n 1, 1) := by decide +kernel
theorem dX10_whyNotCounts_23 : decode cX10_whyNotCounts 23 = .ok (.iaload, 1) := by decide +kernel
theorem dX10_whyNotCounts_24 : decode cX10_whyNotCounts 24 = .ok (.iconst (-1), 1) := by decide +kernel
theorem dX10_whyNotCounts_25 : decode cX10_whyNotCounts 25 = .ok (.if_icmp .ne 6, 3) := by decide +kernel
theorem dX10_whyNotCounts_28 : decode cX10_whyNotCounts 28 = .ok (.bipush (-6), 2) := by decide +kernel
theorem dX10_whyNotCounts_30 : decode cX10_whyNotCounts 30 = .ok (.ireturn, 1) := by decide +kernel
theorem dX10_whyNotCounts_31 : decode cX10_whyNotCounts 31 = .ok (.aload_n 0, 1) := by decide +kernel
theorem dX10_whyNotCounts_32 : decode cX10_whyNotCounts 32 = .ok (.getfield 13, 3) := by decide +kernel
theorem dX10_whyNotCounts_35 : decode cX10_whyNotCounts 35 = .ok (.iload_n 1, 1) := by decide +kernel
theorem dX10_whyNotCounts_36 : decode cX10_whyNotCounts 36 = .ok (.iaload, 1) := by decide +kernel
theorem dX10_whyNotCounts_37 : decode cX10_whyNotCounts 37 = .ok (.aload_n 0, 1) := by decide +kernel
theorem dX10_whyNotCounts_38 : decode cX10_whyNotCounts 38 = .ok (.getfield 34, 3) := by decide +kernel
theorem dX10_whyNotCounts_41 : decode cX10_whyNotCounts 41 = .ok (.iconst 0, 1) := by decide +kernel
theorem dX10_whyNotCounts_42 : decode cX10_whyNotCounts 42 = .ok (.iaload, 1) := by decide +kernel
theorem dX10_whyNotCounts_43 : decode cX10_whyNotCounts 43 = .ok (.if_icmp .eq 6, 3) := by decide +kernel
theorem dX10_whyNotCounts_46 : decode cX10_whyNotCounts 46 = .ok (.bipush (-7), 2) := by decide +kernel
theorem dX10_whyNotCounts_48 : decode cX10_whyNotCounts 48 = .ok (.ireturn, 1) := by decide +kernel
theorem dX10_whyNotCounts_49 : decode cX10_whyNotCounts 49 = .ok (.iconst 0, 1) := by decide +kernel
theorem dX10_whyNotCounts_50 : decode cX10_whyNotCounts 50 = .ok (.istore_n 3, 1) := by decide +kernel
theorem dX10_whyNotCounts_51 : decode cX10_whyNotCounts 51 = .ok (.iload_n 3, 1) := by decide +kernel
theorem dX10_whyNotCounts_52 : decode cX10_whyNotCounts 52 = .ok (.aload_n 0, 1) := by decide +kernel
theorem dX10_whyNotCounts_53 : decode cX10_whyNotCounts 53 = .ok (.getfield 34, 3) := by decide +kernel
theorem dX10_whyNotCounts_56 : decode cX10_whyNotCounts 56 = .ok (.iconst 0, 1) := by decide +kernel
theorem dX10_whyNotCounts_57 : decode cX10_whyNotCounts 57 = .ok (.iaload, 1) := by decide +kernel
theorem dX10_whyNotCounts_58 : decode cX10_whyNotCounts 58 = .ok (.if_icmp .ge 33, 3) := by decide +kernel
theorem dX10_whyNotCounts_61 : decode cX10_whyNotCounts 61 = .ok (.aload_n 0, 1) := by decide +kernel
theorem dX10_whyNotCounts_62 : decode cX10_whyNotCounts 62 = .ok (.getfield 16, 3) := by decide +kernel
theorem dX10_whyNotCounts_65 : decode cX10_whyNotCounts 65 = .ok (.bipush 60, 2) := by decide +kernel
theorem dX10_whyNotCounts_67 : decode cX10_whyNotCounts 67 = .ok (.iload_n 1, 1) := by decide +kernel
theorem dX10_whyNotCounts_68 : decode cX10_whyNotCounts 68 = .ok (.imul, 1) := by decide +kernel
theorem dX10_whyNotCounts_69 : decode cX10_whyNotCounts 69 = .ok (.iload_n 3, 1) := by decide +kernel
theorem dX10_whyNotCounts_70 : decode cX10_whyNotCounts 70 = .ok (.iadd, 1) := by decide +kernel
theorem dX10_whyNotCounts_71 : decode cX10_whyNotCounts 71 = .ok (.laload, 1) := by decide +kernel
theorem dX10_whyNotCounts_72 : decode cX10_whyNotCounts 72 = .ok (.lconst 0, 1) := by decide +kernel
theorem dX10_whyNotCounts_73 : decode cX10_whyNotCounts 73 = .ok (.ldc2_w 448, 3) := by decide +kernel
theorem dX10_whyNotCounts_76 : decode cX10_whyNotCounts 76 = .ok (.invokestatic 109, 3) := by decide +kernel
theorem dX10_whyNotCounts_79 : decode cX10_whyNotCounts 79 = .ok (.ifCond .ne 6, 3) := by decide +kernel
theorem dX10_whyNotCounts_82 : decode cX10_whyNotCounts 82 = .ok (.bipush (-2), 2) := by decide +kernel
theorem dX10_whyNotCounts_84 : decode cX10_whyNotCounts 84 = .ok (.ireturn, 1) := by decide +kernel
theorem dX10_whyNotCounts_85 : decode cX10_whyNotCounts 85 = .ok (.iinc 3 1, 3) := by decide +kernel
theorem dX10_whyNotCounts_88 : decode cX10_whyNotCounts 88 = .ok (.goto (-37), 3) := by decide +kernel
theorem dX10_whyNotCounts_91 : decode cX10_whyNotCounts 91 = .ok (.iconst 0, 1) := by decide +kernel
theorem dX10_whyNotCounts_92 : decode cX10_whyNotCounts 92 = .ok (.ireturn, 1) := by decide +kernel
theorem dX10_wrong_0 : decode cX10_wrong 0 = .ok (.aload_n 0, 1) := by decide +kernel
theorem dX10_wrong_1 : decode cX10_wrong 1 = .ok (.iconst 0, 1) := by decide +kernel
theorem dX10_wrong_2 : decode cX10_wrong 2 = .ok (.putfield 104, 3) := by decide +kernel
theorem dX10_wrong_5 : decode cX10_wrong 5 = .ok (.aload_n 0, 1) := by decide +kernel
theorem dX10_wrong_6 : decode cX10_wrong 6 = .ok (.iload_n 1, 1) := by decide +kernel
theorem dX10_wrong_7 : decode cX10_wrong 7 = .ok (.iload_n 2, 1) := by decide +kernel
theorem dX10_wrong_8 : decode cX10_wrong 8 = .ok (.invokevirtual 450, 3) := by decide +kernel
theorem dX10_wrong_11 : decode cX10_wrong 11 = .ok (.istore_n 3, 1) := by decide +kernel
theorem dX10_wrong_12 : decode cX10_wrong 12 = .ok (.iload_n 3, 1) := by decide +kernel
theorem dX10_wrong_13 : decode cX10_wrong 13 = .ok (.ifCond .eq 5, 3) := by decide +kernel
theorem dX10_wrong_16 : decode cX10_wrong 16 = .ok (.iload_n 3, 1) := by decide +kernel
theorem dX10_wrong_17 : decode cX10_wrong 17 = .ok (.ireturn, 1) := by decide +kernel
theorem dX10_wrong_18 : decode cX10_wrong 18 = .ok (.aload_n 0, 1) := by decide +kernel
theorem dX10_wrong_19 : decode cX10_wrong 19 = .ok (.invokevirtual 384, 3) := by decide +kernel
theorem dX10_wrong_22 : decode cX10_wrong 22 = .ok (.iconst 0, 1) := by decide +kernel
theorem dX10_wrong_23 : decode cX10_wrong 23 = .ok (.istore 4, 2) := by decide +kernel
theorem dX10_wrong_25 : decode cX10_wrong 25 = .ok (.iconst 0, 1) := by decide +kernel
theorem dX10_wrong_26 : decode cX10_wrong 26 = .ok (.istore 5, 2) := by decide +kernel
theorem dX10_wrong_28 : decode cX10_wrong 28 = .ok (.iload 5, 2) := by decide +kernel
theorem dX10_wrong_30 : decode cX10_wrong 30 = .ok (.aload_n 0, 1) := by decide +kernel
theorem dX10_wrong_31 : decode cX10_wrong 31 = .ok (.getfield 34, 3) := by decide +kernel
theorem dX10_wrong_34 : decode cX10_wrong 34 = .ok (.iconst 0, 1) := by decide +kernel
theorem dX10_wrong_35 : decode cX10_wrong 35 = .ok (.iaload, 1) := by decide +kernel
theorem dX10_wrong_36 : decode cX10_wrong 36 = .ok (.if_icmp .ge 48, 3) := by decide +kernel
theorem dX10_wrong_39 : decode cX10_wrong 39 = .ok (.iload 4, 2) := by decide +kernel
theorem dX10_wrong_41 : decode cX10_wrong 41 = .ok (.aload_n 0, 1) := by decide +kernel
theorem dX10_wrong_42 : decode cX10_wrong 42 = .ok (.getfield 16, 3) := by decide +kernel
theorem dX10_wrong_45 : decode cX10_wrong 45 = .ok (.bipush 60, 2) := by decide +kernel
theorem dX10_wrong_47 : decode cX10_wrong 47 = .ok (.iload_n 1, 1) := by decide +kernel
theorem dX10_wrong_48 : decode cX10_wrong 48 = .ok (.imul, 1) := by decide +kernel
theorem dX10_wrong_49 : decode cX10_wrong 49 = .ok (.iload 5, 2) := by decide +kernel
theorem dX10_wrong_51 : decode cX10_wrong 51 = .ok (.iadd, 1) := by decide +kernel
theorem dX10_wrong_52 : decode cX10_wrong 52 = .ok (.laload, 1) := by decide +kernel
theorem dX10_wrong_53 : decode cX10_wrong 53 = .ok (.aload_n 0, 1) := by decide +kernel
theorem dX10_wrong_54 : decode cX10_wrong 54 = .ok (.getfield 65, 3) := by decide +kernel
theorem dX10_wrong_57 : decode cX10_wrong 57 = .ok (.bipush 9, 2) := by decide +kernel
theorem dX10_wrong_59 : decode cX10_wrong 59 = .ok (.iload 5, 2) := by decide +kernel
theorem dX10_wrong_61 : decode cX10_wrong 61 = .ok (.imul, 1) := by decide +kernel
theorem dX10_wrong_62 : decode cX10_wrong 62 = .ok (.iload_n 2, 1) := by decide +kernel
theorem dX10_wrong_63 : decode cX10_wrong 63 = .ok (.iadd, 1) := by decide +kernel
theorem dX10_wrong_64 : decode cX10_wrong 64 = .ok (.iaload, 1) := by decide +kernel
theorem dX10_wrong_65 : decode cX10_wrong 65 = .ok (.i2l, 1) := by decide +kernel
theorem dX10_wrong_66 : decode cX10_wrong 66 = .ok (.lcmp, 1) := by decide +kernel
theorem dX10_wrong_67 : decode cX10_wrong 67 = .ok (.ifCond .ne 7, 3) := by decide +kernel
theorem dX10_wrong_70 : decode cX10_wrong 70 = .ok (.iconst 0, 1) := by decide +kernel
theorem dX10_wrong_71 : decode cX10_wrong 71 = .ok (.goto 4, 3) := by decide +kernel
theorem dX10_wrong_74 : decode cX10_wrong 74 = .ok (.iconst 1, 1) := by decide +kernel
theorem dX10_wrong_75 : decode cX10_wrong 75 = .ok (.iadd, 1) := by decide +kernel
theorem dX10_wrong_76 : decode cX10_wrong 76 = .ok (.istore 4, 2) := by decide +kernel
theorem dX10_wrong_78 : decode cX10_wrong 78 = .ok (.iinc 5 1, 3) := by decide +kernel
theorem dX10_wrong_81 : decode cX10_wrong 81 = .ok (.goto (-53), 3) := by decide +kernel
theorem dX10_wrong_84 : decode cX10_wrong 84 = .ok (.iload 4, 2) := by decide +kernel
theorem dX10_wrong_86 : decode cX10_wrong 86 = .ok (.ireturn, 1) := by decide +kernel
theorem dX10_anew_0 : decode cX10_anew 0 = .ok (.aload_n 0, 1) := by decide +kernel
theorem dX10_anew_1 : decode cX10_anew 1 = .ok (.iconst 0, 1) := by decide +kernel
theorem dX10_anew_2 : decode cX10_anew 2 = .ok (.putfield 104, 3) := by decide +kernel
theorem dX10_anew_5 : decode cX10_anew 5 = .ok (.aload_n 0, 1) := by decide +kernel
theorem dX10_anew_6 : decode cX10_anew 6 = .ok (.iload_n 1, 1) := by decide +kernel
theorem dX10_anew_7 : decode cX10_anew 7 = .ok (.iload_n 2, 1) := by decide +kernel
theorem dX10_anew_8 : decode cX10_anew 8 = .ok (.invokevirtual 450, 3) := by decide +kernel
theorem dX10_anew_11 : decode cX10_anew 11 = .ok (.istore_n 3, 1) := by decide +kernel
theorem dX10_anew_12 : decode cX10_anew 12 = .ok (.iload_n 3, 1) := by decide +kernel
theorem dX10_anew_13 : decode cX10_anew 13 = .ok (.ifCond .eq 5, 3) := by decide +kernel
theorem dX10_anew_16 : decode cX10_anew 16 = .ok (.iload_n 3, 1) := by decide +kernel
theorem dX10_anew_17 : decode cX10_anew 17 = .ok (.ireturn, 1) := by decide +kernel
theorem dX10_anew_18 : decode cX10_anew 18 = .ok (.aload_n 0, 1) := by decide +kernel
theorem dX10_anew_19 : decode cX10_anew 19 = .ok (.invokevirtual 384, 3) := by decide +kernel
theorem dX10_anew_22 : decode cX10_anew 22 = .ok (.lconst 0, 1) := by decide +kernel
theorem dX10_anew_23 : decode cX10_anew 23 = .ok (.lstore 4, 2) := by decide +kernel
theorem dX10_anew_25 : decode cX10_anew 25 = .ok (.iconst 0, 1) := by decide +kernel
theorem dX10_anew_26 : decode cX10_anew 26 = .ok (.istore 6, 2) := by decide +kernel
theorem dX10_anew_28 : decode cX10_anew 28 = .ok (.iload 6, 2) := by decide +kernel
theorem dX10_anew_30 : decode cX10_anew 30 = .ok (.aload_n 0, 1) := by decide +kernel
theorem dX10_anew_31 : decode cX10_anew 31 = .ok (.getfield 34, 3) := by decide +kernel
theorem dX10_anew_34 : decode cX10_anew 34 = .ok (.iconst 0, 1) := by decide +kernel
theorem dX10_anew_35 : decode cX10_anew 35 = .ok (.iaload, 1) := by decide +kernel
theorem dX10_anew_36 : decode cX10_anew 36 = .ok (.if_icmp .ge 40, 3) := by decide +kernel
theorem dX10_anew_39 : decode cX10_anew 39 = .ok (.lload 4, 2) := by decide +kernel
theorem dX10_anew_41 : decode cX10_anew 41 = .ok (.aload_n 0, 1) := by decide +kernel
theorem dX10_anew_42 : decode cX10_anew 42 = .ok (.getfield 16, 3) := by decide +kernel
theorem dX10_anew_45 : decode cX10_anew 45 = .ok (.bipush 60, 2) := by decide +kernel
theorem dX10_anew_47 : decode cX10_anew 47 = .ok (.iload_n 1, 1) := by decide +kernel
theorem dX10_anew_48 : decode cX10_anew 48 = .ok (.imul, 1) := by decide +kernel
theorem dX10_anew_49 : decode cX10_anew 49 = .ok (.iload 6, 2) := by decide +kernel
theorem dX10_anew_51 : decode cX10_anew 51 = .ok (.iadd, 1) := by decide +kernel
theorem dX10_anew_52 : decode cX10_anew 52 = .ok (.laload, 1) := by decide +kernel
theorem dX10_anew_53 : decode cX10_anew 53 = .ok (.aload_n 0, 1) := by decide +kernel
theorem dX10_anew_54 : decode cX10_anew 54 = .ok (.getfield 65, 3) := by decide +kernel
theorem dX10_anew_57 : decode cX10_anew 57 = .ok (.bipush 9, 2) := by decide +kernel
theorem dX10_anew_59 : decode cX10_anew 59 = .ok (.iload 6, 2) := by decide +kernel
theorem dX10_anew_61 : decode cX10_anew 61 = .ok (.imul, 1) := by decide +kernel
theorem dX10_anew_62 : decode cX10_anew 62 = .ok (.iload_n 2, 1) := by decide +kernel
theorem dX10_anew_63 : decode cX10_anew 63 = .ok (.iadd, 1) := by decide +kernel
theorem dX10_anew_64 : decode cX10_anew 64 = .ok (.iaload, 1) := by decide +kernel
theorem dX10_anew_65 : decode cX10_anew 65 = .ok (.i2l, 1) := by decide +kernel
theorem dX10_anew_66 : decode cX10_anew 66 = .ok (.lsub, 1) := by decide +kernel
theorem dX10_anew_67 : decode cX10_anew 67 = .ok (.ladd, 1) := by decide +kernel
theorem dX10_anew_68 : decode cX10_anew 68 = .ok (.lstore 4, 2) := by decide +kernel
theorem dX10_anew_70 : decode cX10_anew 70 = .ok (.iinc 6 1, 3) := by decide +kernel
theorem dX10_anew_73 : decode cX10_anew 73 = .ok (.goto (-45), 3) := by decide +kernel
theorem dX10_anew_76 : decode cX10_anew 76 = .ok (.lload 4, 2) := by decide +kernel
theorem dX10_anew_78 : decode cX10_anew 78 = .ok (.lconst 0, 1) := by decide +kernel
theorem dX10_anew_79 : decode cX10_anew 79 = .ok (.lcmp, 1) := by decide +kernel
theorem dX10_anew_80 : decode cX10_anew 80 = .ok (.ifCond .ne 7, 3) := by decide +kernel
theorem dX10_anew_83 : decode cX10_anew 83 = .ok (.iconst 0, 1) := by decide +kernel
theorem dX10_anew_84 : decode cX10_anew 84 = .ok (.goto 7, 3) := by decide +kernel
theorem dX10_anew_87 : decode cX10_anew 87 = .ok (.aload_n 0, 1) := by decide +kernel
theorem dX10_anew_88 : decode cX10_anew 88 = .ok (.invokevirtual 453, 3) := by decide +kernel
theorem dX10_anew_91 : decode cX10_anew 91 = .ok (.ireturn, 1) := by decide +kernel
theorem dX10_leastPower_0 : decode cX10_leastPower 0 = .ok (.iconst 0, 1) := by decide +kernel
theorem dX10_leastPower_1 : decode cX10_leastPower 1 = .ok (.istore_n 1, 1) := by decide +kernel
theorem dX10_leastPower_2 : decode cX10_leastPower 2 = .ok (.iconst 1, 1) := by decide +kernel
theorem dX10_leastPower_3 : decode cX10_leastPower 3 = .ok (.iload_n 1, 1) := by decide +kernel
theorem dX10_leastPower_4 : decode cX10_leastPower 4 = .ok (.ishl, 1) := by decide +kernel
theorem dX10_leastPower_5 : decode cX10_leastPower 5 = .ok (.aload_n 0, 1) := by decide +kernel
theorem dX10_leastPower_6 : decode cX10_leastPower 6 = .ok (.getfield 34, 3) := by decide +kernel
theorem dX10_leastPower_9 : decode cX10_leastPower 9 = .ok (.iconst 0, 1) := by decide +kernel
theorem dX10_leastPower_10 : decode cX10_leastPower 10 = .ok (.iaload, 1) := by decide +kernel
theorem dX10_leastPower_11 : decode cX10_leastPower 11 = .ok (.if_icmp .ge 9, 3) := by decide +kernel
theorem dX10_leastPower_14 : decode cX10_leastPower 14 = .ok (.iinc 1 1, 3) := by decide +kernel
theorem dX10_leastPower_17 : decode cX10_leastPower 17 = .ok (.goto (-15), 3) := by decide +kernel
theorem dX10_leastPower_20 : decode cX10_leastPower 20 = .ok (.iload_n 1, 1) := by decide +kernel
theorem dX10_leastPower_21 : decode cX10_leastPower 21 = .ok (.ireturn, 1) := by decide +kernel
theorem dX10_mixedOf_0 : decode cX10_mixedOf 0 = .ok (.aload_n 0, 1) := by decide +kernel
theorem dX10_mixedOf_1 : decode cX10_mixedOf 1 = .ok (.invokevirtual 372, 3) := by decide +kernel
theorem dX10_mixedOf_4 : decode cX10_mixedOf 4 = .ok (.aload_n 0, 1) := by decide +kernel
theorem dX10_mixedOf_5 : decode cX10_mixedOf 5 = .ok (.iconst 1, 1) := by decide +kernel
theorem dX10_mixedOf_6 : decode cX10_mixedOf 6 = .ok (.putfield 357, 3) := by decide +kernel
theorem dX10_mixedOf_9 : decode cX10_mixedOf 9 = .ok (.aload_n 0, 1) := by decide +kernel
theorem dX10_mixedOf_10 : decode cX10_mixedOf 10 = .ok (.lload_n 1, 1) := by decide +kernel
theorem dX10_mixedOf_11 : decode cX10_mixedOf 11 = .ok (.putfield 339, 3) := by decide +kernel
theorem dX10_mixedOf_14 : decode cX10_mixedOf 14 = .ok (.aload_n 0, 1) := by decide +kernel
theorem dX10_mixedOf_15 : decode cX10_mixedOf 15 = .ok (.invokevirtual 375, 3) := by decide +kernel
theorem dX10_mixedOf_18 : decode cX10_mixedOf 18 = .ok (.aload_n 0, 1) := by decide +kernel
theorem dX10_mixedOf_19 : decode cX10_mixedOf 19 = .ok (.iload_n 3, 1) := by decide +kernel
theorem dX10_mixedOf_20 : decode cX10_mixedOf 20 = .ok (.invokevirtual 378, 3) := by decide +kernel
theorem dX10_mixedOf_23 : decode cX10_mixedOf 23 = .ok (.ireturn, 1) := by decide +kernel
theorem dX10_isSeed_0 : decode cX10_isSeed 0 = .ok (.iload_n 0, 1) := by decide +kernel
theorem dX10_isSeed_1 : decode cX10_isSeed 1 = .ok (.i2l, 1) := by decide +kernel
theorem dX10_isSeed_2 : decode cX10_isSeed 2 = .ok (.lconst 0, 1) := by decide +kernel
theorem dX10_isSeed_3 : decode cX10_isSeed 3 = .ok (.ldc2_w 456, 3) := by decide +kernel
theorem dX10_isSeed_6 : decode cX10_isSeed 6 = .ok (.invokestatic 109, 3) := by decide +kernel
theorem dX10_isSeed_9 : decode cX10_isSeed 9 = .ok (.ireturn, 1) := by decide +kernel
theorem dX10_mixed_0 : decode cX10_mixed 0 = .ok (.aload_n 0, 1) := by decide +kernel
theorem dX10_mixed_1 : decode cX10_mixed 1 = .ok (.iconst 0, 1) := by decide +kernel
theorem dX10_mixed_2 : decode cX10_mixed 2 = .ok (.putfield 104, 3) := by decide +kernel
theorem dX10_mixed_5 : decode cX10_mixed 5 = .ok (.iload_n 1, 1) := by decide +kernel
theorem dX10_mixed_6 : decode cX10_mixed 6 = .ok (.invokestatic 458, 3) := by decide +kernel
theorem dX10_mixed_9 : decode cX10_mixed 9 = .ok (.ifCond .eq 22, 3) := by decide +kernel
theorem dX10_mixed_12 : decode cX10_mixed 12 = .ok (.aload_n 0, 1) := by decide +kernel
theorem dX10_mixed_13 : decode cX10_mixed 13 = .ok (.iload_n 2, 1) := by decide +kernel
theorem dX10_mixed_14 : decode cX10_mixed 14 = .ok (.i2l, 1) := by decide +kernel
theorem dX10_mixed_15 : decode cX10_mixed 15 = .ok (.invokevirtual 389, 3) := by decide +kernel
theorem dX10_mixed_18 : decode cX10_mixed 18 = .ok (.ifCond .eq 13, 3) := by decide +kernel
theorem dX10_mixed_21 : decode cX10_mixed 21 = .ok (.aload_n 0, 1) := by decide +kernel
theorem dX10_mixed_22 : decode cX10_mixed 22 = .ok (.iload_n 1, 1) := by decide +kernel
theorem dX10_mixed_23 : decode cX10_mixed 23 = .ok (.i2l, 1) := by decide +kernel
theorem dX10_mixed_24 : decode cX10_mixed 24 = .ok (.iload_n 2, 1) := by decide +kernel
theorem dX10_mixed_25 : decode cX10_mixed 25 = .ok (.invokevirtual 461, 3) := by decide +kernel
theorem dX10_mixed_28 : decode cX10_mixed 28 = .ok (.goto 5, 3) := by decide +kernel
theorem dX10_mixed_31 : decode cX10_mixed 31 = .ok (.bipush (-2), 2) := by decide +kernel
theorem dX10_mixed_33 : decode cX10_mixed 33 = .ok (.ireturn, 1) := by decide +kernel
theorem dX10_luck_0 : decode cX10_luck 0 = .ok (.aload_n 0, 1) := by decide +kernel
theorem dX10_luck_1 : decode cX10_luck 1 = .ok (.iconst 0, 1) := by decide +kernel
theorem dX10_luck_2 : decode cX10_luck 2 = .ok (.putfield 104, 3) := by decide +kernel
theorem dX10_luck_5 : decode cX10_luck 5 = .ok (.iload_n 1, 1) := by decide +kernel
theorem dX10_luck_6 : decode cX10_luck 6 = .ok (.invokestatic 458, 3) := by decide +kernel
theorem dX10_luck_9 : decode cX10_luck 9 = .ok (.ifCond .eq 24, 3) := by decide +kernel
theorem dX10_luck_12 : decode cX10_luck 12 = .ok (.iload_n 2, 1) := by decide +kernel
theorem dX10_luck_13 : decode cX10_luck 13 = .ok (.i2l, 1) := by decide +kernel
theorem dX10_luck_14 : decode cX10_luck 14 = .ok (.lconst 1, 1) := by decide +kernel
theorem dX10_luck_15 : decode cX10_luck 15 = .ok (.ldc2_w 465, 3) := by decide +kernel
theorem dX10_luck_18 : decode cX10_luck 18 = .ok (.invokestatic 109, 3) := by decide +kernel
theorem dX10_luck_21 : decode cX10_luck 21 = .ok (.ifCond .eq 12, 3) := by decide +kernel
theorem dX10_luck_24 : decode cX10_luck 24 = .ok (.aload_n 0, 1) := by decide +kernel
theorem dX10_luck_25 : decode cX10_luck 25 = .ok (.iload_n 3, 1) := by decide +kernel
theorem dX10_luck_26 : decode cX10_luck 26 = .ok (.i2l, 1) := by decide +kernel
theorem dX10_luck_27 : decode cX10_luck 27 = .ok (.invokevirtual 389, 3) := by decide +kernel
theorem dX10_luck_30 : decode cX10_luck 30 = .ok (.ifCond .ne 6, 3) := by decide +kernel
theorem dX10_luck_33 : decode cX10_luck 33 = .ok (.bipush (-2), 2) := by decide +kernel
theorem dX10_luck_35 : decode cX10_luck 35 = .ok (.ireturn, 1) := by decide +kernel
theorem dX10_luck_36 : decode cX10_luck 36 = .ok (.aload_n 0, 1) := by decide +kernel
theorem dX10_luck_37 : decode cX10_luck 37 = .ok (.invokevirtual 384, 3) := by decide +kernel
theorem dX10_luck_40 : decode cX10_luck 40 = .ok (.aload_n 0, 1) := by decide +kernel
theorem dX10_luck_41 : decode cX10_luck 41 = .ok (.iload_n 3, 1) := by decide +kernel
theorem dX10_luck_42 : decode cX10_luck 42 = .ok (.invokevirtual 378, 3) := by decide +kernel
theorem dX10_luck_45 : decode cX10_luck 45 = .ok (.istore 4, 2) := by decide +kernel
theorem dX10_luck_47 : decode cX10_luck 47 = .ok (.iconst 0, 1) := by decide +kernel
theorem dX10_luck_48 : decode cX10_luck 48 = .ok (.istore 5, 2) := by decide +kernel
theorem dX10_luck_50 : decode cX10_luck 50 = .ok (.iconst 0, 1) := by decide +kernel
theorem dX10_luck_51 : decode cX10_luck 51 = .ok (.istore 6, 2) := by decide +kernel
theorem dX10_luck_53 : decode cX10_luck 53 = .ok (.iload 6, 2) := by decide +kernel
theorem dX10_luck_55 : decode cX10_luck 55 = .ok (.iload_n 2, 1) := by decide +kernel
theorem dX10_luck_56 : decode cX10_luck 56 = .ok (.if_icmp .ge 35, 3) := by decide +kernel
theorem dX10_luck_59 : decode cX10_luck 59 = .ok (.iload 5, 2) := by decide +kernel
theorem dX10_luck_61 : decode cX10_luck 61 = .ok (.aload_n 0, 1) := by decide +kernel
theorem dX10_luck_62 : decode cX10_luck 62 = .ok (.iload_n 1, 1) := by decide +kernel
theorem dX10_luck_63 : decode cX10_luck 63 = .ok (.i2l, 1) := by decide +kernel
theorem dX10_luck_64 : decode cX10_luck 64 = .ok (.iload 6, 2) := by decide +kernel
theorem dX10_luck_66 : decode cX10_luck 66 = .ok (.i2l, 1) := by decide +kernel
theorem dX10_luck_67 : decode cX10_luck 67 = .ok (.ladd, 1) := by decide +kernel
theorem dX10_luck_68 : decode cX10_luck 68 = .ok (.iload_n 3, 1) := by decide +kernel
theorem dX10_luck_69 : decode cX10_luck 69 = .ok (.invokevirtual 461, 3) := by decide +kernel
theorem dX10_luck_72 : decode cX10_luck 72 = .ok (.iload 4, 2) := by decide +kernel
theorem dX10_luck_74 : decode cX10_luck 74 = .ok (.if_icmp .le 7, 3) := by decide +kernel
theorem dX10_luck_77 : decode cX10_luck 77 = .ok (.iconst 1, 1) := by decide +kernel
theorem dX10_luck_78 : decode cX10_luck 78 = .ok (.goto 4, 3) := by decide +kernel
theorem dX10_luck_81 : decode cX10_luck 81 = .ok (.iconst 0, 1) := by decide +kernel
theorem dX10_luck_82 : decode cX10_luck 82 = .ok (.iadd, 1) := by decide +kernel
theorem dX10_luck_83 : decode cX10_luck 83 = .ok (.istore 5, 2) := by decide +kernel
theorem dX10_luck_85 : decode cX10_luck 85 = .ok (.iinc 6 1, 3) := by decide +kernel
theorem dX10_luck_88 : decode cX10_luck 88 = .ok (.goto (-35), 3) := by decide +kernel
theorem dX10_luck_91 : decode cX10_luck 91 = .ok (.iload 5, 2) := by decide +kernel
theorem dX10_luck_93 : decode cX10_luck 93 = .ok (.ireturn, 1) := by decide +kernel
theorem dX10_free_0 : decode cX10_free 0 = .ok (.aload_n 0, 1) := by decide +kernel
theorem dX10_free_1 : decode cX10_free 1 = .ok (.iconst 0, 1) := by decide +kernel
theorem dX10_free_2 : decode cX10_free 2 = .ok (.putfield 104, 3) := by decide +kernel
theorem dX10_free_5 : decode cX10_free 5 = .ok (.aload_n 0, 1) := by decide +kernel
theorem dX10_free_6 : decode cX10_free 6 = .ok (.iload_n 1, 1) := by decide +kernel
theorem dX10_free_7 : decode cX10_free 7 = .ok (.i2l, 1) := by decide +kernel
theorem dX10_free_8 : decode cX10_free 8 = .ok (.invokevirtual 389, 3) := by decide +kernel
theorem dX10_free_11 : decode cX10_free 11 = .ok (.ifCond .ne 6, 3) := by decide +kernel
theorem dX10_free_14 : decode cX10_free 14 = .ok (.bipush (-2), 2) := by decide +kernel
theorem dX10_free_16 : decode cX10_free 16 = .ok (.ireturn, 1) := by decide +kernel
theorem dX10_free_17 : decode cX10_free 17 = .ok (.aload_n 0, 1) := by decide +kernel
theorem dX10_free_18 : decode cX10_free 18 = .ok (.getfield 37, 3) := by decide +kernel
theorem dX10_free_21 : decode cX10_free 21 = .ok (.iconst 3, 1) := by decide +kernel
theorem dX10_free_22 : decode cX10_free 22 = .ok (.iaload, 1) := by decide +kernel
theorem dX10_free_23 : decode cX10_free 23 = .ok (.istore_n 2, 1) := by decide +kernel
theorem dX10_free_24 : decode cX10_free 24 = .ok (.iconst (-1), 1) := by decide +kernel
theorem dX10_free_25 : decode cX10_free 25 = .ok (.istore_n 3, 1) := by decide +kernel
theorem dX10_free_26 : decode cX10_free 26 = .ok (.iconst 2, 1) := by decide +kernel
theorem dX10_free_27 : decode cX10_free 27 = .ok (.istore 4, 2) := by decide +kernel
theorem dX10_free_29 : decode cX10_free 29 = .ok (.iload 4, 2) := by decide +kernel
theorem dX10_free_31 : decode cX10_free 31 = .ok (.bipush 100, 2) := by decide +kernel
theorem dX10_free_33 : decode cX10_free 33 = .ok (.if_icmp .gt 41, 3) := by decide +kernel
theorem dX10_free_36 : decode cX10_free 36 = .ok (.iload_n 3, 1) := by decide +kernel
theorem dX10_free_37 : decode cX10_free 37 = .ok (.iconst (-1), 1) := by decide +kernel
theorem dX10_free_38 : decode cX10_free 38 = .ok (.if_icmp .ne 36, 3) := by decide +kernel
theorem dX10_free_41 : decode cX10_free 41 = .ok (.aload_n 0, 1) := by decide +kernel
theorem dX10_free_42 : decode cX10_free 42 = .ok (.getfield 37, 3) := by decide +kernel
theorem dX10_free_45 : decode cX10_free 45 = .ok (.iconst 3, 1) := by decide +kernel
theorem dX10_free_46 : decode cX10_free 46 = .ok (.iload 4, 2) := by decide +kernel
theorem dX10_free_48 : decode cX10_free 48 = .ok (.iastore, 1) := by decide +kernel
theorem dX10_free_49 : decode cX10_free 49 = .ok (.aload_n 0, 1) := by decide +kernel
theorem dX10_free_50 : decode cX10_free 50 = .ok (.invokevirtual 384, 3) := by decide +kernel
theorem dX10_free_53 : decode cX10_free 53 = .ok (.aload_n 0, 1) := by decide +kernel
theorem dX10_free_54 : decode cX10_free 54 = .ok (.iload_n 1, 1) := by decide +kernel
theorem dX10_free_55 : decode cX10_free 55 = .ok (.invokevirtual 378, 3) := by decide +kernel
theorem dX10_free_58 : decode cX10_free 58 = .ok (.ifCond .ne 8, 3) := by decide +kernel
theorem dX10_free_61 : decode cX10_free 61 = .ok (.iload 4, 2) := by decide +kernel
theorem dX10_free_63 : decode cX10_free 63 = .ok (.goto 4, 3) := by decide +kernel
theorem dX10_free_66 : decode cX10_free 66 = .ok (.iconst (-1), 1) := by decide +kernel
theorem dX10_free_67 : decode cX10_free 67 = .ok (.istore_n 3, 1) := by decide +kernel
theorem dX10_free_68 : decode cX10_free 68 = .ok (.iinc 4 1, 3) := by decide +kernel
theorem dX10_free_71 : decode cX10_free 71 = .ok (.goto (-42), 3) := by decide +kernel
theorem dX10_free_74 : decode cX10_free 74 = .ok (.aload_n 0, 1) := by decide +kernel
theorem dX10_free_75 : decode cX10_free 75 = .ok (.getfield 37, 3) := by decide +kernel
theorem dX10_free_78 : decode cX10_free 78 = .ok (.iconst 3, 1) := by decide +kernel
theorem dX10_free_79 : decode cX10_free 79 = .ok (.iload_n 2, 1) := by decide +kernel
theorem dX10_free_80 : decode cX10_free 80 = .ok (.iastore, 1) := by decide +kernel
theorem dX10_free_81 : decode cX10_free 81 = .ok (.iload_n 3, 1) := by decide +kernel
theorem dX10_free_82 : decode cX10_free 82 = .ok (.ireturn, 1) := by decide +kernel
theorem dX10_all_0 : decode cX10_all 0 = .ok (.aload_n 0, 1) := by decide +kernel
theorem dX10_all_1 : decode cX10_all 1 = .ok (.iconst 0, 1) := by decide +kernel
theorem dX10_all_2 : decode cX10_all 2 = .ok (.putfield 104, 3) := by decide +kernel
theorem dX10_all_5 : decode cX10_all 5 = .ok (.aload_n 0, 1) := by decide +kernel
theorem dX10_all_6 : decode cX10_all 6 = .ok (.invokevirtual 280, 3) := by decide +kernel
theorem dX10_all_9 : decode cX10_all 9 = .ok (.ifCond .eq 15, 3) := by decide +kernel
theorem dX10_all_12 : decode cX10_all 12 = .ok (.iload_n 1, 1) := by decide +kernel
theorem dX10_all_13 : decode cX10_all 13 = .ok (.i2l, 1) := by decide +kernel
theorem dX10_all_14 : decode cX10_all 14 = .ok (.lconst 0, 1) := by decide +kernel
theorem dX10_all_15 : decode cX10_all 15 = .ok (.ldc2_w 107, 3) := by decide +kernel
theorem dX10_all_18 : decode cX10_all 18 = .ok (.invokestatic 109, 3) := by decide +kernel
theorem dX10_all_21 : decode cX10_all 21 = .ok (.ifCond .ne 6, 3) := by decide +kernel
theorem dX10_all_24 : decode cX10_all 24 = .ok (.bipush (-2), 2) := by decide +kernel
theorem dX10_all_26 : decode cX10_all 26 = .ok (.ireturn, 1) := by decide +kernel
theorem dX10_all_27 : decode cX10_all 27 = .ok (.aload_n 0, 1) := by decide +kernel
theorem dX10_all_28 : decode cX10_all 28 = .ok (.getfield 37, 3) := by decide +kernel
theorem dX10_all_31 : decode cX10_all 31 = .ok (.iconst 0, 1) := by decide +kernel
theorem dX10_all_32 : decode cX10_all 32 = .ok (.iaload, 1) := by decide +kernel
theorem dX10_all_33 : decode cX10_all 33 = .ok (.istore_n 2, 1) := by decide +kernel
theorem dX10_all_34 : decode cX10_all 34 = .ok (.aload_n 0, 1) := by decide +kernel
theorem dX10_all_35 : decode cX10_all 35 = .ok (.getfield 37, 3) := by decide +kernel
theorem dX10_all_38 : decode cX10_all 38 = .ok (.iconst 1, 1) := by decide +kernel
theorem dX10_all_39 : decode cX10_all 39 = .ok (.iaload, 1) := by decide +kernel
theorem dX10_all_40 : decode cX10_all 40 = .ok (.istore_n 3, 1) := by decide +kernel
theorem dX10_all_41 : decode cX10_all 41 = .ok (.aload_n 0, 1) := by decide +kernel
theorem dX10_all_42 : decode cX10_all 42 = .ok (.getfield 37, 3) := by decide +kernel
theorem dX10_all_45 : decode cX10_all 45 = .ok (.iconst 0, 1) := by decide +kernel
theorem dX10_all_46 : decode cX10_all 46 = .ok (.iload_n 1, 1) := by decide +kernel
theorem dX10_all_47 : decode cX10_all 47 = .ok (.iconst 2, 1) := by decide +kernel
theorem dX10_all_48 : decode cX10_all 48 = .ok (.idiv, 1) := by decide +kernel
theorem dX10_all_49 : decode cX10_all 49 = .ok (.iastore, 1) := by decide +kernel
theorem dX10_all_50 : decode cX10_all 50 = .ok (.aload_n 0, 1) := by decide +kernel
theorem dX10_all_51 : decode cX10_all 51 = .ok (.getfield 37, 3) := by decide +kernel
theorem dX10_all_54 : decode cX10_all 54 = .ok (.iconst 1, 1) := by decide +kernel
theorem dX10_all_55 : decode cX10_all 55 = .ok (.iload_n 1, 1) := by decide +kernel
theorem dX10_all_56 : decode cX10_all 56 = .ok (.iconst 2, 1) := by decide +kernel
theorem dX10_all_57 : decode cX10_all 57 = .ok (.irem, 1) := by decide +kernel
theorem dX10_all_58 : decode cX10_all 58 = .ok (.iastore, 1) := by decide +kernel
theorem dX10_all_59 : decode cX10_all 59 = .ok (.aload_n 0, 1) := by decide +kernel
theorem dX10_all_60 : decode cX10_all 60 = .ok (.invokevirtual 384, 3) := by decide +kernel
theorem dX10_all_63 : decode cX10_all 63 = .ok (.aload_n 0, 1) := by decide +kernel
theorem dX10_all_64 : decode cX10_all 64 = .ok (.getfield 37, 3) := by decide +kernel
theorem dX10_all_67 : decode cX10_all 67 = .ok (.iconst 0, 1) := by decide +kernel
theorem dX10_all_68 : decode cX10_all 68 = .ok (.iload_n 2, 1) := by decide +kernel
theorem dX10_all_69 : decode cX10_all 69 = .ok (.iastore, 1) := by decide +kernel
theorem dX10_all_70 : decode cX10_all 70 = .ok (.aload_n 0, 1) := by decide +kernel
theorem dX10_all_71 : decode cX10_all 71 = .ok (.getfield 37, 3) := by decide +kernel
theorem dX10_all_74 : decode cX10_all 74 = .ok (.iconst 1, 1) := by decide +kernel
theorem dX10_all_75 : decode cX10_all 75 = .ok (.iload_n 3, 1) := by decide +kernel
theorem dX10_all_76 : decode cX10_all 76 = .ok (.iastore, 1) := by decide +kernel
theorem dX10_all_77 : decode cX10_all 77 = .ok (.aload_n 0, 1) := by decide +kernel
theorem dX10_all_78 : decode cX10_all 78 = .ok (.getfield 328, 3) := by decide +kernel
theorem dX10_all_81 : decode cX10_all 81 = .ok (.aload_n 0, 1) := by decide +kernel
theorem dX10_all_82 : decode cX10_all 82 = .ok (.getfield 37, 3) := by decide +kernel
theorem dX10_all_85 : decode cX10_all 85 = .ok (.iconst 4, 1) := by decide +kernel
theorem dX10_all_86 : decode cX10_all 86 = .ok (.iaload, 1) := by decide +kernel
theorem dX10_all_87 : decode cX10_all 87 = .ok (.imul, 1) := by decide +kernel
theorem dX10_all_88 : decode cX10_all 88 = .ok (.ireturn, 1) := by decide +kernel
theorem dX10_count_0 : decode cX10_count 0 = .ok (.aload_n 0, 1) := by decide +kernel
theorem dX10_count_1 : decode cX10_count 1 = .ok (.iconst 0, 1) := by decide +kernel
theorem dX10_count_2 : decode cX10_count 2 = .ok (.putfield 104, 3) := by decide +kernel
theorem dX10_count_5 : decode cX10_count 5 = .ok (.iconst 0, 1) := by decide +kernel
theorem dX10_count_6 : decode cX10_count 6 = .ok (.istore_n 2, 1) := by decide +kernel
theorem dX10_count_7 : decode cX10_count 7 = .ok (.iload_n 1, 1) := by decide +kernel
theorem dX10_count_8 : decode cX10_count 8 = .ok (.tableswitch 139 0 8 #[52, 59, 66, 73, 80, 87, 94, 99, 106], 52) := by decide +kernel
theorem dX10_count_60 : decode cX10_count 60 = .ok (.aload_n 0, 1) := by decide +kernel
theorem dX10_count_61 : decode cX10_count 61 = .ok (.getfield 34, 3) := by decide +kernel
theorem dX10_count_64 : decode cX10_count 64 = .ok (.iconst 0, 1) := by decide +kernel
theorem dX10_count_65 : decode cX10_count 65 = .ok (.iaload, 1) := by decide +kernel
theorem dX10_count_66 : decode cX10_count 66 = .ok (.ireturn, 1) := by decide +kernel
theorem dX10_count_67 : decode cX10_count 67 = .ok (.aload_n 0, 1) := by decide +kernel
theorem dX10_count_68 : decode cX10_count 68 = .ok (.getfield 34, 3) := by decide +kernel
theorem dX10_count_71 : decode cX10_count 71 = .ok (.iconst 1, 1) := by decide +kernel
theorem dX10_count_72 : decode cX10_count 72 = .ok (.iaload, 1) := by decide +kernel
theorem dX10_count_73 : decode cX10_count 73 = .ok (.ireturn, 1) := by decide +kernel
theorem dX10_count_74 : decode cX10_count 74 = .ok (.aload_n 0, 1) := by decide +kernel
theorem dX10_count_75 : decode cX10_count 75 = .ok (.getfield 34, 3) := by decide +kernel
theorem dX10_count_78 : decode cX10_count 78 = .ok (.iconst 2, 1) := by decide +kernel
theorem dX10_count_79 : decode cX10_count 79 = .ok (.iaload, 1) := by decide +kernel
theorem dX10_count_80 : decode cX10_count 80 = .ok (.ireturn, 1) := by decide +kernel
theorem dX10_count_81 : decode cX10_count 81 = .ok (.aload_n 0, 1) := by decide +kernel
theorem dX10_count_82 : decode cX10_count 82 = .ok (.getfield 34, 3) := by decide +kernel
theorem dX10_count_85 : decode cX10_count 85 = .ok (.iconst 3, 1) := by decide +kernel
theorem dX10_count_86 : decode cX10_count 86 = .ok (.iaload, 1) := by decide +kernel
theorem dX10_count_87 : decode cX10_count 87 = .ok (.ireturn, 1) := by decide +kernel
theorem dX10_count_88 : decode cX10_count 88 = .ok (.aload_n 0, 1) := by decide +kernel
theorem dX10_count_89 : decode cX10_count 89 = .ok (.getfield 34, 3) := by decide +kernel
theorem dX10_count_92 : decode cX10_count 92 = .ok (.iconst 4, 1) := by decide +kernel
theorem dX10_count_93 : decode cX10_count 93 = .ok (.iaload, 1) := by decide +kernel
theorem dX10_count_94 : decode cX10_count 94 = .ok (.ireturn, 1) := by decide +kernel
theorem dX10_count_95 : decode cX10_count 95 = .ok (.aload_n 0, 1) := by decide +kernel
theorem dX10_count_96 : decode cX10_count 96 = .ok (.getfield 31, 3) := by decide +kernel
theorem dX10_count_99 : decode cX10_count 99 = .ok (.iconst 0, 1) := by decide +kernel
theorem dX10_count_100 : decode cX10_count 100 = .ok (.iaload, 1) := by decide +kernel
theorem dX10_count_101 : decode cX10_count 101 = .ok (.ireturn, 1) := by decide +kernel
theorem dX10_count_102 : decode cX10_count 102 = .ok (.aload_n 0, 1) := by decide +kernel
theorem dX10_count_103 : decode cX10_count 103 = .ok (.getfield 121, 3) := by decide +kernel
theorem dX10_count_106 : decode cX10_count 106 = .ok (.ireturn, 1) := by decide +kernel
theorem dX10_count_107 : decode cX10_count 107 = .ok (.aload_n 0, 1) := by decide +kernel
theorem dX10_count_108 : decode cX10_count 108 = .ok (.getfield 34, 3) := by decide +kernel
theorem dX10_count_111 : decode cX10_count 111 = .ok (.iconst 5, 1) := by decide +kernel
theorem dX10_count_112 : decode cX10_count 112 = .ok (.iaload, 1) := by decide +kernel
theorem dX10_count_113 : decode cX10_count 113 = .ok (.ireturn, 1) := by decide +kernel
theorem dX10_count_114 : decode cX10_count 114 = .ok (.iconst 0, 1) := by decide +kernel
theorem dX10_count_115 : decode cX10_count 115 = .ok (.istore_n 3, 1) := by decide +kernel
theorem dX10_count_116 : decode cX10_count 116 = .ok (.iload_n 3, 1) := by decide +kernel
theorem dX10_count_117 : decode cX10_count 117 = .ok (.iconst 4, 1) := by decide +kernel
theorem dX10_count_118 : decode cX10_count 118 = .ok (.if_icmp .ge 27, 3) := by decide +kernel
theorem dX10_count_121 : decode cX10_count 121 = .ok (.iload_n 2, 1) := by decide +kernel
theorem dX10_count_122 : decode cX10_count 122 = .ok (.aload_n 0, 1) := by decide +kernel
theorem dX10_count_123 : decode cX10_count 123 = .ok (.getfield 7, 3) := by decide +kernel
theorem dX10_count_126 : decode cX10_count 126 = .ok (.iload_n 3, 1) := by decide +kernel
theorem dX10_count_127 : decode cX10_count 127 = .ok (.iaload, 1) := by decide +kernel
theorem dX10_count_128 : decode cX10_count 128 = .ok (.iconst (-1), 1) := by decide +kernel
theorem dX10_count_129 : decode cX10_count 129 = .ok (.if_icmp .ne 7, 3) := by decide +kernel
theorem dX10_count_132 : decode cX10_count 132 = .ok (.iconst 0, 1) := by decide +kernel
theorem dX10_count_133 : decode cX10_count 133 = .ok (.goto 4, 3) := by decide +kernel
theorem dX10_count_136 : decode cX10_count 136 = .ok (.iconst 1, 1) := by decide +kernel
theorem dX10_count_137 : decode cX10_count 137 = .ok (.iadd, 1) := by decide +kernel
theorem dX10_count_138 : decode cX10_count 138 = .ok (.istore_n 2, 1) := by decide +kernel
theorem dX10_count_139 : decode cX10_count 139 = .ok (.iinc 3 1, 3) := by decide +kernel
theorem dX10_count_142 : decode cX10_count 142 = .ok (.goto (-26), 3) := by decide +kernel
theorem dX10_count_145 : decode cX10_count 145 = .ok (.iload_n 2, 1) := by decide +kernel
theorem dX10_count_146 : decode cX10_count 146 = .ok (.ireturn, 1) := by decide +kernel
theorem dX10_count_147 : decode cX10_count 147 = .ok (.iconst (-1), 1) := by decide +kernel
theorem dX10_count_148 : decode cX10_count 148 = .ok (.ireturn, 1) := by decide +kernel
theorem dX10_keep_0 : decode cX10_keep 0 = .ok (.aload_n 0, 1) := by decide +kernel
theorem dX10_keep_1 : decode cX10_keep 1 = .ok (.iconst 0, 1) := by decide +kernel
theorem dX10_keep_2 : decode cX10_keep 2 = .ok (.putfield 104, 3) := by decide +kernel
theorem dX10_keep_5 : decode cX10_keep 5 = .ok (.iload_n 1, 1) := by decide +kernel
theorem dX10_keep_6 : decode cX10_keep 6 = .ok (.i2l, 1) := by decide +kernel
theorem dX10_keep_7 : decode cX10_keep 7 = .ok (.lconst 0, 1) := by decide +kernel
theorem dX10_keep_8 : decode cX10_keep 8 = .ok (.ldc2_w 302, 3) := by decide +kernel
theorem dX10_keep_11 : decode cX10_keep 11 = .ok (.invokestatic 109, 3) := by decide +kernel
theorem dX10_keep_14 : decode cX10_keep 14 = .ok (.ifCond .ne 6, 3) := by decide +kernel
theorem dX10_keep_17 : decode cX10_keep 17 = .ok (.bipush (-2), 2) := by decide +kernel
theorem dX10_keep_19 : decode cX10_keep 19 = .ok (.ireturn, 1) := by decide +kernel
theorem dX10_keep_20 : decode cX10_keep 20 = .ok (.aload_n 0, 1) := by decide +kernel
theorem dX10_keep_21 : decode cX10_keep 21 = .ok (.iconst 0, 1) := by decide +kernel
theorem dX10_keep_22 : decode cX10_keep 22 = .ok (.iconst 1, 1) := by decide +kernel
theorem dX10_keep_23 : decode cX10_keep 23 = .ok (.iload_n 1, 1) := by decide +kernel
theorem dX10_keep_24 : decode cX10_keep 24 = .ok (.iadd, 1) := by decide +kernel
theorem dX10_keep_25 : decode cX10_keep 25 = .ok (.invokevirtual 272, 3) := by decide +kernel
theorem dX10_keep_28 : decode cX10_keep 28 = .ok (.aload_n 0, 1) := by decide +kernel
theorem dX10_keep_29 : decode cX10_keep 29 = .ok (.getfield 49, 3) := by decide +kernel
theorem dX10_keep_32 : decode cX10_keep 32 = .ok (.iload_n 1, 1) := by decide +kernel
theorem dX10_keep_33 : decode cX10_keep 33 = .ok (.iconst 1, 1) := by decide +kernel
theorem dX10_keep_34 : decode cX10_keep 34 = .ok (.bastore, 1) := by decide +kernel
theorem dX10_keep_35 : decode cX10_keep 35 = .ok (.iconst 0, 1) := by decide +kernel
theorem dX10_keep_36 : decode cX10_keep 36 = .ok (.ireturn, 1) := by decide +kernel
theorem dX10_back_0 : decode cX10_back 0 = .ok (.aload_n 0, 1) := by decide +kernel
theorem dX10_back_1 : decode cX10_back 1 = .ok (.iconst 0, 1) := by decide +kernel
theorem dX10_back_2 : decode cX10_back 2 = .ok (.putfield 104, 3) := by decide +kernel
theorem dX10_back_5 : decode cX10_back 5 = .ok (.iload_n 1, 1) := by decide +kernel
theorem dX10_back_6 : decode cX10_back 6 = .ok (.i2l, 1) := by decide +kernel
theorem dX10_back_7 : decode cX10_back 7 = .ok (.lconst 0, 1) := by decide +kernel
theorem dX10_back_8 : decode cX10_back 8 = .ok (.ldc2_w 302, 3) := by decide +kernel
theorem dX10_back_11 : decode cX10_back 11 = .ok (.invokestatic 109, 3) := by decide +kernel
theorem dX10_back_14 : decode cX10_back 14 = .ok (.ifCond .ne 6, 3) := by decide +kernel
theorem dX10_back_17 : decode cX10_back 17 = .ok (.bipush (-2), 2) := by decide +kernel
theorem dX10_back_19 : decode cX10_back 19 = .ok (.ireturn, 1) := by decide +kernel
theorem dX10_back_20 : decode cX10_back 20 = .ok (.aload_n 0, 1) := by decide +kernel
theorem dX10_back_21 : decode cX10_back 21 = .ok (.getfield 49, 3) := by decide +kernel
theorem dX10_back_24 : decode cX10_back 24 = .ok (.iload_n 1, 1) := by decide +kernel
theorem dX10_back_25 : decode cX10_back 25 = .ok (.baload, 1) := by decide +kernel
theorem dX10_back_26 : decode cX10_back 26 = .ok (.ifCond .ne 6, 3) := by decide +kernel
theorem dX10_back_29 : decode cX10_back 29 = .ok (.bipush (-6), 2) := by decide +kernel
theorem dX10_back_31 : decode cX10_back 31 = .ok (.ireturn, 1) := by decide +kernel
theorem dX10_back_32 : decode cX10_back 32 = .ok (.aload_n 0, 1) := by decide +kernel
theorem dX10_back_33 : decode cX10_back 33 = .ok (.iconst 1, 1) := by decide +kernel
theorem dX10_back_34 : decode cX10_back 34 = .ok (.iload_n 1, 1) := by decide +kernel
theorem dX10_back_35 : decode cX10_back 35 = .ok (.iadd, 1) := by decide +kernel
theorem dX10_back_36 : decode cX10_back 36 = .ok (.iconst 0, 1) := by decide +kernel
theorem dX10_back_37 : decode cX10_back 37 = .ok (.invokevirtual 272, 3) := by decide +kernel
theorem dX10_back_40 : decode cX10_back 40 = .ok (.iconst 0, 1) := by decide +kernel
theorem dX10_back_41 : decode cX10_back 41 = .ok (.ireturn, 1) := by decide +kernel
theorem dJ9_max_7cf53_0 : decode cJ9_max_7cf53 0 = .ok (.iload_n 0, 1) := by decide +kernel
theorem dJ9_max_7cf53_1 : decode cJ9_max_7cf53 1 = .ok (.iload_n 1, 1) := by decide +kernel
theorem dJ9_max_7cf53_2 : decode cJ9_max_7cf53 2 = .ok (.if_icmp .lt 7, 3) := by decide +kernel
theorem dJ9_max_7cf53_5 : decode cJ9_max_7cf53 5 = .ok (.iload_n 0, 1) := by decide +kernel
theorem dJ9_max_7cf53_6 : decode cJ9_max_7cf53 6 = .ok (.goto 4, 3) := by decide +kernel
theorem dJ9_max_7cf53_9 : decode cJ9_max_7cf53 9 = .ok (.iload_n 1, 1) := by decide +kernel
theorem dJ9_max_7cf53_10 : decode cJ9_max_7cf53 10 = .ok (.ireturn, 1) := by decide +kernel
theorem dJ9_min_7cf53_0 : decode cJ9_min_7cf53 0 = .ok (.iload_n 0, 1) := by decide +kernel
theorem dJ9_min_7cf53_1 : decode cJ9_min_7cf53 1 = .ok (.iload_n 1, 1) := by decide +kernel
theorem dJ9_min_7cf53_2 : decode cJ9_min_7cf53 2 = .ok (.if_icmp .gt 7, 3) := by decide +kernel
theorem dJ9_min_7cf53_5 : decode cJ9_min_7cf53 5 = .ok (.iload_n 0, 1) := by decide +kernel
theorem dJ9_min_7cf53_6 : decode cJ9_min_7cf53 6 = .ok (.goto 4, 3) := by decide +kernel
theorem dJ9_min_7cf53_9 : decode cJ9_min_7cf53 9 = .ok (.iload_n 1, 1) := by decide +kernel
theorem dJ9_min_7cf53_10 : decode cJ9_min_7cf53 10 = .ok (.ireturn, 1) := by decide +kernel
theorem dJ0_length_8abf5_0 : decode cJ0_length_8abf5 0 = .ok (.aload_n 0, 1) := by decide +kernel
theorem dJ0_length_8abf5_1 : decode cJ0_length_8abf5 1 = .ok (.getfield 9, 3) := by decide +kernel
theorem dJ0_length_8abf5_4 : decode cJ0_length_8abf5 4 = .ok (.arraylength, 1) := by decide +kernel
theorem dJ0_length_8abf5_5 : decode cJ0_length_8abf5 5 = .ok (.aload_n 0, 1) := by decide +kernel
theorem dJ0_length_8abf5_6 : decode cJ0_length_8abf5 6 = .ok (.invokevirtual 335, 3) := by decide +kernel
theorem dJ0_length_8abf5_9 : decode cJ0_length_8abf5 9 = .ok (.ishr, 1) := by decide +kernel
theorem dJ0_length_8abf5_10 : decode cJ0_length_8abf5 10 = .ok (.ireturn, 1) := by decide +kernel
theorem dJ0_charAt_5068e_0 : decode cJ0_charAt_5068e 0 = .ok (.aload_n 0, 1) := by decide +kernel
theorem dJ0_charAt_5068e_1 : decode cJ0_charAt_5068e 1 = .ok (.invokevirtual 492, 3) := by decide +kernel
theorem dJ0_charAt_5068e_4 : decode cJ0_charAt_5068e 4 = .ok (.ifCond .eq 12, 3) := by decide +kernel
theorem dJ0_charAt_5068e_7 : decode cJ0_charAt_5068e 7 = .ok (.aload_n 0, 1) := by decide +kernel
theorem dJ0_charAt_5068e_8 : decode cJ0_charAt_5068e 8 = .ok (.getfield 9, 3) := by decide +kernel
theorem dJ0_charAt_5068e_11 : decode cJ0_charAt_5068e 11 = .ok (.iload_n 1, 1) := by decide +kernel
theorem dJ0_charAt_5068e_12 : decode cJ0_charAt_5068e 12 = .ok (.invokestatic 495, 3) := by decide +kernel
theorem dJ0_charAt_5068e_15 : decode cJ0_charAt_5068e 15 = .ok (.ireturn, 1) := by decide +kernel
theorem dJ0_charAt_5068e_16 : decode cJ0_charAt_5068e 16 = .ok (.aload_n 0, 1) := by decide +kernel
theorem dJ0_charAt_5068e_17 : decode cJ0_charAt_5068e 17 = .ok (.getfield 9, 3) := by decide +kernel
theorem dJ0_charAt_5068e_20 : decode cJ0_charAt_5068e 20 = .ok (.iload_n 1, 1) := by decide +kernel
theorem dJ0_charAt_5068e_21 : decode cJ0_charAt_5068e 21 = .ok (.invokestatic 498, 3) := by decide +kernel
theorem dJ0_charAt_5068e_24 : decode cJ0_charAt_5068e 24 = .ok (.ireturn, 1) := by decide +kernel
theorem dJ0_coder_7d493_0 : decode cJ0_coder_7d493 0 = .ok (.getstatic 38, 3) := by decide +kernel
theorem dJ0_coder_7d493_3 : decode cJ0_coder_7d493 3 = .ok (.ifCond .eq 10, 3) := by decide +kernel
theorem dJ0_coder_7d493_6 : decode cJ0_coder_7d493 6 = .ok (.aload_n 0, 1) := by decide +kernel
theorem dJ0_coder_7d493_7 : decode cJ0_coder_7d493 7 = .ok (.getfield 15, 3) := by decide +kernel
theorem dJ0_coder_7d493_10 : decode cJ0_coder_7d493 10 = .ok (.goto 4, 3) := by decide +kernel
theorem dJ0_coder_7d493_13 : decode cJ0_coder_7d493 13 = .ok (.iconst 1, 1) := by decide +kernel
theorem dJ0_coder_7d493_14 : decode cJ0_coder_7d493 14 = .ok (.ireturn, 1) := by decide +kernel
theorem dJ0_isLatin1_aae02_0 : decode cJ0_isLatin1_aae02 0 = .ok (.getstatic 38, 3) := by decide +kernel
theorem dJ0_isLatin1_aae02_3 : decode cJ0_isLatin1_aae02 3 = .ok (.ifCond .eq 14, 3) := by decide +kernel
theorem dJ0_isLatin1_aae02_6 : decode cJ0_isLatin1_aae02 6 = .ok (.aload_n 0, 1) := by decide +kernel
theorem dJ0_isLatin1_aae02_7 : decode cJ0_isLatin1_aae02 7 = .ok (.getfield 15, 3) := by decide +kernel
theorem dJ0_isLatin1_aae02_10 : decode cJ0_isLatin1_aae02 10 = .ok (.ifCond .ne 7, 3) := by decide +kernel
theorem dJ0_isLatin1_aae02_13 : decode cJ0_isLatin1_aae02 13 = .ok (.iconst 1, 1) := by decide +kernel
theorem dJ0_isLatin1_aae02_14 : decode cJ0_isLatin1_aae02 14 = .ok (.goto 4, 3) := by decide +kernel
theorem dJ0_isLatin1_aae02_17 : decode cJ0_isLatin1_aae02 17 = .ok (.iconst 0, 1) := by decide +kernel
theorem dJ0_isLatin1_aae02_18 : decode cJ0_isLatin1_aae02 18 = .ok (.ireturn, 1) := by decide +kernel
theorem dJ0_checkIndex_df160_0 : decode cJ0_checkIndex_df160 0 = .ok (.iload_n 0, 1) := by decide +kernel
theorem dJ0_checkIndex_df160_1 : decode cJ0_checkIndex_df160 1 = .ok (.iload_n 1, 1) := by decide +kernel
theorem dJ0_checkIndex_df160_2 : decode cJ0_checkIndex_df160 2 = .ok (.getstatic 1053, 3) := by decide +kernel
theorem dJ0_checkIndex_df160_5 : decode cJ0_checkIndex_df160 5 = .ok (.invokestatic 1059, 3) := by decide +kernel
theorem dJ0_checkIndex_df160_8 : decode cJ0_checkIndex_df160 8 = .ok (.pop, 1) := by decide +kernel
theorem dJ0_checkIndex_df160_9 : decode cJ0_checkIndex_df160 9 = .ok (.return_, 1) := by decide +kernel
theorem dJ1_charAt_3b067_0 : decode cJ1_charAt_3b067 0 = .ok (.iload_n 1, 1) := by decide +kernel
theorem dJ1_charAt_3b067_1 : decode cJ1_charAt_3b067 1 = .ok (.aload_n 0, 1) := by decide +kernel
theorem dJ1_charAt_3b067_2 : decode cJ1_charAt_3b067 2 = .ok (.arraylength, 1) := by decide +kernel
theorem dJ1_charAt_3b067_3 : decode cJ1_charAt_3b067 3 = .ok (.invokestatic 9, 3) := by decide +kernel
theorem dJ1_charAt_3b067_6 : decode cJ1_charAt_3b067 6 = .ok (.aload_n 0, 1) := by decide +kernel
theorem dJ1_charAt_3b067_7 : decode cJ1_charAt_3b067 7 = .ok (.iload_n 1, 1) := by decide +kernel
theorem dJ1_charAt_3b067_8 : decode cJ1_charAt_3b067 8 = .ok (.baload, 1) := by decide +kernel
theorem dJ1_charAt_3b067_9 : decode cJ1_charAt_3b067 9 = .ok (.sipush 255, 3) := by decide +kernel
theorem dJ1_charAt_3b067_12 : decode cJ1_charAt_3b067 12 = .ok (.iand, 1) := by decide +kernel
theorem dJ1_charAt_3b067_13 : decode cJ1_charAt_3b067 13 = .ok (.i2c, 1) := by decide +kernel
theorem dJ1_charAt_3b067_14 : decode cJ1_charAt_3b067 14 = .ok (.ireturn, 1) := by decide +kernel
theorem dJ2_getChar_3b067_0 : decode cJ2_getChar_3b067 0 = .ok (.getstatic 44, 3) := by decide +kernel
theorem dJ2_getChar_3b067_3 : decode cJ2_getChar_3b067 3 = .ok (.ifCond .ne 25, 3) := by decide +kernel
theorem dJ2_getChar_3b067_6 : decode cJ2_getChar_3b067 6 = .ok (.iload_n 1, 1) := by decide +kernel
theorem dJ2_getChar_3b067_7 : decode cJ2_getChar_3b067 7 = .ok (.ifCond .lt 11, 3) := by decide +kernel
theorem dJ2_getChar_3b067_10 : decode cJ2_getChar_3b067 10 = .ok (.iload_n 1, 1) := by decide +kernel
theorem dJ2_getChar_3b067_11 : decode cJ2_getChar_3b067 11 = .ok (.aload_n 0, 1) := by decide +kernel
theorem dJ2_getChar_3b067_12 : decode cJ2_getChar_3b067 12 = .ok (.invokestatic 48, 3) := by decide +kernel
theorem dJ2_getChar_3b067_15 : decode cJ2_getChar_3b067 15 = .ok (.if_icmp .lt 13, 3) := by decide +kernel
theorem dJ2_getChar_3b067_18 : decode cJ2_getChar_3b067 18 = .ok (.new 52, 3) := by decide +kernel
theorem dJ2_getChar_3b067_21 : decode cJ2_getChar_3b067 21 = .ok (.dup, 1) := by decide +kernel
theorem dJ2_getChar_3b067_22 : decode cJ2_getChar_3b067 22 = .ok (.ldc 54, 2) := by decide +kernel
theorem dJ2_getChar_3b067_24 : decode cJ2_getChar_3b067 24 = .ok (.invokespecial 56, 3) := by decide +kernel
theorem dJ2_getChar_3b067_27 : decode cJ2_getChar_3b067 27 = .ok (.athrow, 1) := by decide +kernel
theorem dJ2_getChar_3b067_28 : decode cJ2_getChar_3b067 28 = .ok (.iload_n 1, 1) := by decide +kernel
theorem dJ2_getChar_3b067_29 : decode cJ2_getChar_3b067 29 = .ok (.iconst 1, 1) := by decide +kernel
theorem dJ2_getChar_3b067_30 : decode cJ2_getChar_3b067 30 = .ok (.ishl, 1) := by decide +kernel
theorem dJ2_getChar_3b067_31 : decode cJ2_getChar_3b067 31 = .ok (.istore_n 1, 1) := by decide +kernel
theorem dJ2_getChar_3b067_32 : decode cJ2_getChar_3b067 32 = .ok (.aload_n 0, 1) := by decide +kernel
theorem dJ2_getChar_3b067_33 : decode cJ2_getChar_3b067 33 = .ok (.iload_n 1, 1) := by decide +kernel
theorem dJ2_getChar_3b067_34 : decode cJ2_getChar_3b067 34 = .ok (.iinc 1 1, 3) := by decide +kernel
theorem dJ2_getChar_3b067_37 : decode cJ2_getChar_3b067 37 = .ok (.baload, 1) := by decide +kernel
theorem dJ2_getChar_3b067_38 : decode cJ2_getChar_3b067 38 = .ok (.sipush 255, 3) := by decide +kernel
theorem dJ2_getChar_3b067_41 : decode cJ2_getChar_3b067 41 = .ok (.iand, 1) := by decide +kernel
theorem dJ2_getChar_3b067_42 : decode cJ2_getChar_3b067 42 = .ok (.getstatic 59, 3) := by decide +kernel
theorem dJ2_getChar_3b067_45 : decode cJ2_getChar_3b067 45 = .ok (.ishl, 1) := by decide +kernel
theorem dJ2_getChar_3b067_46 : decode cJ2_getChar_3b067 46 = .ok (.aload_n 0, 1) := by decide +kernel
theorem dJ2_getChar_3b067_47 : decode cJ2_getChar_3b067 47 = .ok (.iload_n 1, 1) := by decide +kernel
theorem dJ2_getChar_3b067_48 : decode cJ2_getChar_3b067 48 = .ok (.baload, 1) := by decide +kernel
theorem dJ2_getChar_3b067_49 : decode cJ2_getChar_3b067 49 = .ok (.sipush 255, 3) := by decide +kernel
theorem dJ2_getChar_3b067_52 : decode cJ2_getChar_3b067 52 = .ok (.iand, 1) := by decide +kernel
theorem dJ2_getChar_3b067_53 : decode cJ2_getChar_3b067 53 = .ok (.getstatic 63, 3) := by decide +kernel
theorem dJ2_getChar_3b067_56 : decode cJ2_getChar_3b067 56 = .ok (.ishl, 1) := by decide +kernel
theorem dJ2_getChar_3b067_57 : decode cJ2_getChar_3b067 57 = .ok (.ior, 1) := by decide +kernel
theorem dJ2_getChar_3b067_58 : decode cJ2_getChar_3b067 58 = .ok (.i2c, 1) := by decide +kernel
theorem dJ2_getChar_3b067_59 : decode cJ2_getChar_3b067 59 = .ok (.ireturn, 1) := by decide +kernel
theorem dJ2_length_9d52b_0 : decode cJ2_length_9d52b 0 = .ok (.aload_n 0, 1) := by decide +kernel
theorem dJ2_length_9d52b_1 : decode cJ2_length_9d52b 1 = .ok (.arraylength, 1) := by decide +kernel
theorem dJ2_length_9d52b_2 : decode cJ2_length_9d52b 2 = .ok (.iconst 1, 1) := by decide +kernel
theorem dJ2_length_9d52b_3 : decode cJ2_length_9d52b 3 = .ok (.ishr, 1) := by decide +kernel
theorem dJ2_length_9d52b_4 : decode cJ2_length_9d52b 4 = .ok (.ireturn, 1) := by decide +kernel
theorem dJ2_charAt_3b067_0 : decode cJ2_charAt_3b067 0 = .ok (.iload_n 1, 1) := by decide +kernel
theorem dJ2_charAt_3b067_1 : decode cJ2_charAt_3b067 1 = .ok (.aload_n 0, 1) := by decide +kernel
theorem dJ2_charAt_3b067_2 : decode cJ2_charAt_3b067 2 = .ok (.invokestatic 67, 3) := by decide +kernel
theorem dJ2_charAt_3b067_5 : decode cJ2_charAt_3b067 5 = .ok (.aload_n 0, 1) := by decide +kernel
theorem dJ2_charAt_3b067_6 : decode cJ2_charAt_3b067 6 = .ok (.iload_n 1, 1) := by decide +kernel
theorem dJ2_charAt_3b067_7 : decode cJ2_charAt_3b067 7 = .ok (.invokestatic 71, 3) := by decide +kernel
theorem dJ2_charAt_3b067_10 : decode cJ2_charAt_3b067 10 = .ok (.ireturn, 1) := by decide +kernel
theorem dJ2_checkIndex_2214a_0 : decode cJ2_checkIndex_2214a 0 = .ok (.iload_n 0, 1) := by decide +kernel
theorem dJ2_checkIndex_2214a_1 : decode cJ2_checkIndex_2214a 1 = .ok (.aload_n 1, 1) := by decide +kernel
theorem dJ2_checkIndex_2214a_2 : decode cJ2_checkIndex_2214a 2 = .ok (.invokestatic 48, 3) := by decide +kernel
theorem dJ2_checkIndex_2214a_5 : decode cJ2_checkIndex_2214a 5 = .ok (.invokestatic 414, 3) := by decide +kernel
theorem dJ2_checkIndex_2214a_8 : decode cJ2_checkIndex_2214a 8 = .ok (.return_, 1) := by decide +kernel
theorem dJ7_fill_d0a16_0 : decode cJ7_fill_d0a16 0 = .ok (.iconst 0, 1) := by decide +kernel
theorem dJ7_fill_d0a16_1 : decode cJ7_fill_d0a16 1 = .ok (.istore_n 3, 1) := by decide +kernel
theorem dJ7_fill_d0a16_2 : decode cJ7_fill_d0a16 2 = .ok (.aload_n 0, 1) := by decide +kernel
theorem dJ7_fill_d0a16_3 : decode cJ7_fill_d0a16 3 = .ok (.arraylength, 1) := by decide +kernel
theorem dJ7_fill_d0a16_4 : decode cJ7_fill_d0a16 4 = .ok (.istore 4, 2) := by decide +kernel
theorem dJ7_fill_d0a16_6 : decode cJ7_fill_d0a16 6 = .ok (.iload_n 3, 1) := by decide +kernel
theorem dJ7_fill_d0a16_7 : decode cJ7_fill_d0a16 7 = .ok (.iload 4, 2) := by decide +kernel
theorem dJ7_fill_d0a16_9 : decode cJ7_fill_d0a16 9 = .ok (.if_icmp .ge 13, 3) := by decide +kernel
theorem dJ7_fill_d0a16_12 : decode cJ7_fill_d0a16 12 = .ok (.aload_n 0, 1) := by decide +kernel
theorem dJ7_fill_d0a16_13 : decode cJ7_fill_d0a16 13 = .ok (.iload_n 3, 1) := by decide +kernel
theorem dJ7_fill_d0a16_14 : decode cJ7_fill_d0a16 14 = .ok (.lload_n 1, 1) := by decide +kernel
theorem dJ7_fill_d0a16_15 : decode cJ7_fill_d0a16 15 = .ok (.lastore, 1) := by decide +kernel
theorem dJ7_fill_d0a16_16 : decode cJ7_fill_d0a16 16 = .ok (.iinc 3 1, 3) := by decide +kernel
theorem dJ7_fill_d0a16_19 : decode cJ7_fill_d0a16 19 = .ok (.goto (-13), 3) := by decide +kernel
theorem dJ7_fill_d0a16_22 : decode cJ7_fill_d0a16 22 = .ok (.return_, 1) := by decide +kernel
theorem dJ7_fill_53178_0 : decode cJ7_fill_53178 0 = .ok (.iconst 0, 1) := by decide +kernel
theorem dJ7_fill_53178_1 : decode cJ7_fill_53178 1 = .ok (.istore_n 2, 1) := by decide +kernel
theorem dJ7_fill_53178_2 : decode cJ7_fill_53178 2 = .ok (.aload_n 0, 1) := by decide +kernel
theorem dJ7_fill_53178_3 : decode cJ7_fill_53178 3 = .ok (.arraylength, 1) := by decide +kernel
theorem dJ7_fill_53178_4 : decode cJ7_fill_53178 4 = .ok (.istore_n 3, 1) := by decide +kernel
theorem dJ7_fill_53178_5 : decode cJ7_fill_53178 5 = .ok (.iload_n 2, 1) := by decide +kernel
theorem dJ7_fill_53178_6 : decode cJ7_fill_53178 6 = .ok (.iload_n 3, 1) := by decide +kernel
theorem dJ7_fill_53178_7 : decode cJ7_fill_53178 7 = .ok (.if_icmp .ge 13, 3) := by decide +kernel
theorem dJ7_fill_53178_10 : decode cJ7_fill_53178 10 = .ok (.aload_n 0, 1) := by decide +kernel
theorem dJ7_fill_53178_11 : decode cJ7_fill_53178 11 = .ok (.iload_n 2, 1) := by decide +kernel

theorem dX9_sure_41 : decode cX9_sure 41 = .ok (.iload 4, 2) := by decide +kernel
theorem dX9_sure_43 : decode cX9_sure 43 = .ok (.iaload, 1) := by decide +kernel
theorem dX9_sure_44 : decode cX9_sure 44 = .ok (.ireturn, 1) := by decide +kernel
theorem dX9_explain_0 : decode cX9_explain 0 = .ok (.iload_n 1, 1) := by decide +kernel
theorem dX9_explain_1 : decode cX9_explain 1 = .ok (.invokestatic 294, 3) := by decide +kernel
theorem dX9_explain_4 : decode cX9_explain 4 = .ok (.ifCond .eq 25, 3) := by decide +kernel
theorem dX9_explain_7 : decode cX9_explain 7 = .ok (.aload_n 0, 1) := by decide +kernel
theorem dX9_explain_8 : decode cX9_explain 8 = .ok (.getfield 19, 3) := by decide +kernel
theorem dX9_explain_11 : decode cX9_explain 11 = .ok (.iload_n 2, 1) := by decide +kernel
theorem dX9_explain_12 : decode cX9_explain 12 = .ok (.invokevirtual 160, 3) := by decide +kernel
theorem dX9_explain_15 : decode cX9_explain 15 = .ok (.ifCond .eq 14, 3) := by decide +kernel
theorem dX9_explain_18 : decode cX9_explain 18 = .ok (.aload_n 0, 1) := by decide +kernel
theorem dX9_explain_19 : decode cX9_explain 19 = .ok (.getfield 19, 3) := by decide +kernel
theorem dX9_explain_22 : decode cX9_explain 22 = .ok (.iload_n 3, 1) := by decide +kernel
theorem dX9_explain_23 : decode cX9_explain 23 = .ok (.invokevirtual 170, 3) := by decide +kernel
theorem dX9_explain_26 : decode cX9_explain 26 = .ok (.ifCond .ne 6, 3) := by decide +kernel
theorem dX9_explain_29 : decode cX9_explain 29 = .ok (.bipush (-2), 2) := by decide +kernel
theorem dX9_explain_31 : decode cX9_explain 31 = .ok (.ireturn, 1) := by decide +kernel
theorem dX9_explain_32 : decode cX9_explain 32 = .ok (.aload_n 0, 1) := by decide +kernel
theorem dX9_explain_33 : decode cX9_explain 33 = .ok (.getfield 46, 3) := by decide +kernel
theorem dX9_explain_36 : decode cX9_explain 36 = .ok (.iload_n 1, 1) := by decide +kernel
theorem dX9_explain_37 : decode cX9_explain 37 = .ok (.invokevirtual 297, 3) := by decide +kernel
theorem dX9_explain_40 : decode cX9_explain 40 = .ok (.ifCond .ne 6, 3) := by decide +kernel
theorem dX9_explain_43 : decode cX9_explain 43 = .ok (.bipush (-6), 2) := by decide +kernel
theorem dX9_explain_45 : decode cX9_explain 45 = .ok (.ireturn, 1) := by decide +kernel
theorem dX9_explain_46 : decode cX9_explain 46 = .ok (.aload_n 0, 1) := by decide +kernel
theorem dX9_explain_47 : decode cX9_explain 47 = .ok (.getfield 69, 3) := by decide +kernel
theorem dX9_explain_50 : decode cX9_explain 50 = .ok (.aload_n 0, 1) := by decide +kernel
theorem dX9_explain_51 : decode cX9_explain 51 = .ok (.getfield 19, 3) := by decide +kernel
theorem dX9_explain_54 : decode cX9_explain 54 = .ok (.iload_n 2, 1) := by decide +kernel
theorem dX9_explain_55 : decode cX9_explain 55 = .ok (.iload_n 3, 1) := by decide +kernel
theorem dX9_explain_56 : decode cX9_explain 56 = .ok (.invokevirtual 300, 3) := by decide +kernel
theorem dX9_explain_59 : decode cX9_explain 59 = .ok (.bipush 6, 2) := by decide +kernel
theorem dX9_explain_61 : decode cX9_explain 61 = .ok (.if_icmp .le 6, 3) := by decide +kernel
theorem dX9_explain_64 : decode cX9_explain 64 = .ok (.bipush (-3), 2) := by decide +kernel
theorem dX9_explain_66 : decode cX9_explain 66 = .ok (.ireturn, 1) := by decide +kernel
theorem dX9_explain_67 : decode cX9_explain 67 = .ok (.aload_n 0, 1) := by decide +kernel
theorem dX9_explain_68 : decode cX9_explain 68 = .ok (.getfield 46, 3) := by decide +kernel
theorem dX9_explain_71 : decode cX9_explain 71 = .ok (.iload_n 1, 1) := by decide +kernel
theorem dX9_explain_72 : decode cX9_explain 72 = .ok (.aload_n 0, 1) := by decide +kernel
theorem dX9_explain_73 : decode cX9_explain 73 = .ok (.getfield 19, 3) := by decide +kernel
theorem dX9_explain_76 : decode cX9_explain 76 = .ok (.getfield 215, 3) := by decide +kernel
theorem dX9_explain_79 : decode cX9_explain 79 = .ok (.iconst 1, 1) := by decide +kernel
theorem dX9_explain_80 : decode cX9_explain 80 = .ok (.isub, 1) := by decide +kernel
theorem dX9_explain_81 : decode cX9_explain 81 = .ok (.invokevirtual 303, 3) := by decide +kernel
theorem dX9_explain_84 : decode cX9_explain 84 = .ok (.ifCond .ne 6, 3) := by decide +kernel
theorem dX9_explain_87 : decode cX9_explain 87 = .ok (.bipush (-2), 2) := by decide +kernel
theorem dX9_explain_89 : decode cX9_explain 89 = .ok (.ireturn, 1) := by decide +kernel
theorem dX9_explain_90 : decode cX9_explain 90 = .ok (.aload_n 0, 1) := by decide +kernel
theorem dX9_explain_91 : decode cX9_explain 91 = .ok (.getfield 69, 3) := by decide +kernel
theorem dX9_explain_94 : decode cX9_explain 94 = .ok (.aload_n 0, 1) := by decide +kernel
theorem dX9_explain_95 : decode cX9_explain 95 = .ok (.getfield 19, 3) := by decide +kernel
theorem dX9_explain_98 : decode cX9_explain 98 = .ok (.iload_n 2, 1) := by decide +kernel
theorem dX9_explain_99 : decode cX9_explain 99 = .ok (.iload_n 3, 1) := by decide +kernel
theorem dX9_explain_100 : decode cX9_explain 100 = .ok (.aload_n 0, 1) := by decide +kernel
theorem dX9_explain_101 : decode cX9_explain 101 = .ok (.getfield 46, 3) := by decide +kernel
theorem dX9_explain_104 : decode cX9_explain 104 = .ok (.iload_n 1, 1) := by decide +kernel
theorem dX9_explain_105 : decode cX9_explain 105 = .ok (.invokevirtual 306, 3) := by decide +kernel
theorem dX9_explain_108 : decode cX9_explain 108 = .ok (.iconst 0, 1) := by decide +kernel
theorem dX9_explain_109 : decode cX9_explain 109 = .ok (.ireturn, 1) := by decide +kernel
theorem dX9_wrong_0 : decode cX9_wrong 0 = .ok (.aload_n 0, 1) := by decide +kernel
theorem dX9_wrong_1 : decode cX9_wrong 1 = .ok (.iload_n 1, 1) := by decide +kernel
theorem dX9_wrong_2 : decode cX9_wrong 2 = .ok (.iload_n 2, 1) := by decide +kernel
theorem dX9_wrong_3 : decode cX9_wrong 3 = .ok (.invokevirtual 310, 3) := by decide +kernel
theorem dX9_wrong_6 : decode cX9_wrong 6 = .ok (.istore_n 3, 1) := by decide +kernel
theorem dX9_wrong_7 : decode cX9_wrong 7 = .ok (.iload_n 3, 1) := by decide +kernel
theorem dX9_wrong_8 : decode cX9_wrong 8 = .ok (.ifCond .eq 5, 3) := by decide +kernel
theorem dX9_wrong_11 : decode cX9_wrong 11 = .ok (.iload_n 3, 1) := by decide +kernel
theorem dX9_wrong_12 : decode cX9_wrong 12 = .ok (.ireturn, 1) := by decide +kernel
theorem dX9_wrong_13 : decode cX9_wrong 13 = .ok (.iconst 0, 1) := by decide +kernel
theorem dX9_wrong_14 : decode cX9_wrong 14 = .ok (.istore 4, 2) := by decide +kernel
theorem dX9_wrong_16 : decode cX9_wrong 16 = .ok (.iconst 0, 1) := by decide +kernel
theorem dX9_wrong_17 : decode cX9_wrong 17 = .ok (.istore 5, 2) := by decide +kernel
theorem dX9_wrong_19 : decode cX9_wrong 19 = .ok (.iload 5, 2) := by decide +kernel
theorem dX9_wrong_21 : decode cX9_wrong 21 = .ok (.aload_n 0, 1) := by decide +kernel
theorem dX9_wrong_22 : decode cX9_wrong 22 = .ok (.getfield 19, 3) := by decide +kernel
theorem dX9_wrong_25 : decode cX9_wrong 25 = .ok (.getfield 313, 3) := by decide +kernel
theorem dX9_wrong_28 : decode cX9_wrong 28 = .ok (.if_icmp .ge 39, 3) := by decide +kernel
theorem dX9_wrong_31 : decode cX9_wrong 31 = .ok (.aload_n 0, 1) := by decide +kernel
theorem dX9_wrong_32 : decode cX9_wrong 32 = .ok (.getfield 46, 3) := by decide +kernel
theorem dX9_wrong_35 : decode cX9_wrong 35 = .ok (.getfield 316, 3) := by decide +kernel
theorem dX9_wrong_38 : decode cX9_wrong 38 = .ok (.iload_n 1, 1) := by decide +kernel
theorem dX9_wrong_39 : decode cX9_wrong 39 = .ok (.aaload, 1) := by decide +kernel
theorem dX9_wrong_40 : decode cX9_wrong 40 = .ok (.iload 5, 2) := by decide +kernel
theorem dX9_wrong_42 : decode cX9_wrong 42 = .ok (.laload, 1) := by decide +kernel
theorem dX9_wrong_43 : decode cX9_wrong 43 = .ok (.aload_n 0, 1) := by decide +kernel
theorem dX9_wrong_44 : decode cX9_wrong 44 = .ok (.getfield 19, 3) := by decide +kernel
theorem dX9_wrong_47 : decode cX9_wrong 47 = .ok (.iload 5, 2) := by decide +kernel
theorem dX9_wrong_49 : decode cX9_wrong 49 = .ok (.iload_n 2, 1) := by decide +kernel
theorem dX9_wrong_50 : decode cX9_wrong 50 = .ok (.invokevirtual 183, 3) := by decide +kernel
theorem dX9_wrong_53 : decode cX9_wrong 53 = .ok (.i2l, 1) := by decide +kernel
theorem dX9_wrong_54 : decode cX9_wrong 54 = .ok (.lcmp, 1) := by decide +kernel
theorem dX9_wrong_55 : decode cX9_wrong 55 = .ok (.ifCond .eq 6, 3) := by decide +kernel
theorem dX9_wrong_58 : decode cX9_wrong 58 = .ok (.iinc 4 1, 3) := by decide +kernel
theorem dX9_wrong_61 : decode cX9_wrong 61 = .ok (.iinc 5 1, 3) := by decide +kernel
theorem dX9_wrong_64 : decode cX9_wrong 64 = .ok (.goto (-45), 3) := by decide +kernel
theorem dX9_wrong_67 : decode cX9_wrong 67 = .ok (.iload 4, 2) := by decide +kernel
theorem dX9_wrong_69 : decode cX9_wrong 69 = .ok (.ireturn, 1) := by decide +kernel
theorem dX9_anew_0 : decode cX9_anew 0 = .ok (.aload_n 0, 1) := by decide +kernel
theorem dX9_anew_1 : decode cX9_anew 1 = .ok (.iload_n 1, 1) := by decide +kernel
theorem dX9_anew_2 : decode cX9_anew 2 = .ok (.iload_n 2, 1) := by decide +kernel
theorem dX9_anew_3 : decode cX9_anew 3 = .ok (.invokevirtual 310, 3) := by decide +kernel
theorem dX9_anew_6 : decode cX9_anew 6 = .ok (.istore_n 3, 1) := by decide +kernel
theorem dX9_anew_7 : decode cX9_anew 7 = .ok (.iload_n 3, 1) := by decide +kernel
theorem dX9_anew_8 : decode cX9_anew 8 = .ok (.ifCond .eq 5, 3) := by decide +kernel
theorem dX9_anew_11 : decode cX9_anew 11 = .ok (.iload_n 3, 1) := by decide +kernel
theorem dX9_anew_12 : decode cX9_anew 12 = .ok (.ireturn, 1) := by decide +kernel
theorem dX9_anew_13 : decode cX9_anew 13 = .ok (.lconst 0, 1) := by decide +kernel
theorem dX9_anew_14 : decode cX9_anew 14 = .ok (.lstore 4, 2) := by decide +kernel
theorem dX9_anew_16 : decode cX9_anew 16 = .ok (.iconst 0, 1) := by decide +kernel
theorem dX9_anew_17 : decode cX9_anew 17 = .ok (.istore 6, 2) := by decide +kernel
theorem dX9_anew_19 : decode cX9_anew 19 = .ok (.iload 6, 2) := by decide +kernel
theorem dX9_anew_21 : decode cX9_anew 21 = .ok (.aload_n 0, 1) := by decide +kernel
theorem dX9_anew_22 : decode cX9_anew 22 = .ok (.getfield 19, 3) := by decide +kernel
theorem dX9_anew_25 : decode cX9_anew 25 = .ok (.getfield 313, 3) := by decide +kernel
theorem dX9_anew_28 : decode cX9_anew 28 = .ok (.if_icmp .ge 38, 3) := by decide +kernel
theorem dX9_anew_31 : decode cX9_anew 31 = .ok (.lload 4, 2) := by decide +kernel
theorem dX9_anew_33 : decode cX9_anew 33 = .ok (.aload_n 0, 1) := by decide +kernel
theorem dX9_anew_34 : decode cX9_anew 34 = .ok (.getfield 46, 3) := by decide +kernel
theorem dX9_anew_37 : decode cX9_anew 37 = .ok (.getfield 316, 3) := by decide +kernel
theorem dX9_anew_40 : decode cX9_anew 40 = .ok (.iload_n 1, 1) := by decide +kernel
theorem dX9_anew_41 : decode cX9_anew 41 = .ok (.aaload, 1) := by decide +kernel
theorem dX9_anew_42 : decode cX9_anew 42 = .ok (.iload 6, 2) := by decide +kernel
theorem dX9_anew_44 : decode cX9_anew 44 = .ok (.laload, 1) := by decide +kernel
theorem dX9_anew_45 : decode cX9_anew 45 = .ok (.aload_n 0, 1) := by decide +kernel
theorem dX9_anew_46 : decode cX9_anew 46 = .ok (.getfield 19, 3) := by decide +kernel
theorem dX9_anew_49 : decode cX9_anew 49 = .ok (.iload 6, 2) := by decide +kernel
theorem dX9_anew_51 : decode cX9_anew 51 = .ok (.iload_n 2, 1) := by decide +kernel
theorem dX9_anew_52 : decode cX9_anew 52 = .ok (.invokevirtual 183, 3) := by decide +kernel
theorem dX9_anew_55 : decode cX9_anew 55 = .ok (.i2l, 1) := by decide +kernel
theorem dX9_anew_56 : decode cX9_anew 56 = .ok (.lsub, 1) := by decide +kernel
theorem dX9_anew_57 : decode cX9_anew 57 = .ok (.ladd, 1) := by decide +kernel
theorem dX9_anew_58 : decode cX9_anew 58 = .ok (.lstore 4, 2) := by decide +kernel
theorem dX9_anew_60 : decode cX9_anew 60 = .ok (.iinc 6 1, 3) := by decide +kernel
theorem dX9_anew_63 : decode cX9_anew 63 = .ok (.goto (-44), 3) := by decide +kernel
theorem dX9_anew_66 : decode cX9_anew 66 = .ok (.iconst 0, 1) := by decide +kernel
theorem dX9_anew_67 : decode cX9_anew 67 = .ok (.istore 6, 2) := by decide +kernel
theorem dX9_anew_69 : decode cX9_anew 69 = .ok (.lload 4, 2) := by decide +kernel
theorem dX9_anew_71 : decode cX9_anew 71 = .ok (.lconst 0, 1) := by decide +kernel
theorem dX9_anew_72 : decode cX9_anew 72 = .ok (.lcmp, 1) := by decide +kernel
theorem dX9_anew_73 : decode cX9_anew 73 = .ok (.ifCond .eq 29, 3) := by decide +kernel
theorem dX9_anew_76 : decode cX9_anew 76 = .ok (.iload 6, 2) := by decide +kernel
theorem dX9_anew_78 : decode cX9_anew 78 = .ok (.iconst 4, 1) := by decide +kernel
theorem dX9_anew_79 : decode cX9_anew 79 = .ok (.if_icmp .ge 23, 3) := by decide +kernel
theorem dX9_anew_82 : decode cX9_anew 82 = .ok (.iconst 1, 1) := by decide +kernel
theorem dX9_anew_83 : decode cX9_anew 83 = .ok (.iload 6, 2) := by decide +kernel
theorem dX9_anew_85 : decode cX9_anew 85 = .ok (.ishl, 1) := by decide +kernel
theorem dX9_anew_86 : decode cX9_anew 86 = .ok (.aload_n 0, 1) := by decide +kernel
theorem dX9_anew_87 : decode cX9_anew 87 = .ok (.getfield 19, 3) := by decide +kernel
theorem dX9_anew_90 : decode cX9_anew 90 = .ok (.getfield 313, 3) := by decide +kernel
theorem dX9_anew_93 : decode cX9_anew 93 = .ok (.if_icmp .ge 9, 3) := by decide +kernel
theorem dX9_anew_96 : decode cX9_anew 96 = .ok (.iinc 6 1, 3) := by decide +kernel
theorem dX9_anew_99 : decode cX9_anew 99 = .ok (.goto (-23), 3) := by decide +kernel
theorem dX9_anew_102 : decode cX9_anew 102 = .ok (.iload 6, 2) := by decide +kernel
theorem dX9_anew_104 : decode cX9_anew 104 = .ok (.ireturn, 1) := by decide +kernel
theorem dX9_askTold_0 : decode cX9_askTold 0 = .ok (.iload_n 1, 1) := by decide +kernel
theorem dX9_askTold_1 : decode cX9_askTold 1 = .ok (.invokestatic 294, 3) := by decide +kernel
theorem dX9_askTold_4 : decode cX9_askTold 4 = .ok (.ifCond .eq 14, 3) := by decide +kernel
theorem dX9_askTold_7 : decode cX9_askTold 7 = .ok (.aload_n 0, 1) := by decide +kernel
theorem dX9_askTold_8 : decode cX9_askTold 8 = .ok (.getfield 19, 3) := by decide +kernel
theorem dX9_askTold_11 : decode cX9_askTold 11 = .ok (.iload_n 2, 1) := by decide +kernel
theorem dX9_askTold_12 : decode cX9_askTold 12 = .ok (.invokevirtual 170, 3) := by decide +kernel
theorem dX9_askTold_15 : decode cX9_askTold 15 = .ok (.ifCond .ne 6, 3) := by decide +kernel
theorem dX9_askTold_18 : decode cX9_askTold 18 = .ok (.bipush (-2), 2) := by decide +kernel
theorem dX9_askTold_20 : decode cX9_askTold 20 = .ok (.ireturn, 1) := by decide +kernel
theorem dX9_askTold_21 : decode cX9_askTold 21 = .ok (.aload_n 0, 1) := by decide +kernel
theorem dX9_askTold_22 : decode cX9_askTold 22 = .ok (.getfield 46, 3) := by decide +kernel
theorem dX9_askTold_25 : decode cX9_askTold 25 = .ok (.iload_n 1, 1) := by decide +kernel
theorem dX9_askTold_26 : decode cX9_askTold 26 = .ok (.invokevirtual 297, 3) := by decide +kernel
theorem dX9_askTold_29 : decode cX9_askTold 29 = .ok (.ifCond .ne 6, 3) := by decide +kernel
theorem dX9_askTold_32 : decode cX9_askTold 32 = .ok (.bipush (-6), 2) := by decide +kernel
theorem dX9_askTold_34 : decode cX9_askTold 34 = .ok (.ireturn, 1) := by decide +kernel
theorem dX9_askTold_35 : decode cX9_askTold 35 = .ok (.aload_n 0, 1) := by decide +kernel
theorem dX9_askTold_36 : decode cX9_askTold 36 = .ok (.getfield 46, 3) := by decide +kernel
theorem dX9_askTold_39 : decode cX9_askTold 39 = .ok (.getfield 320, 3) := by decide +kernel
theorem dX9_askTold_42 : decode cX9_askTold 42 = .ok (.iload_n 1, 1) := by decide +kernel
theorem dX9_askTold_43 : decode cX9_askTold 43 = .ok (.iaload, 1) := by decide +kernel
theorem dX9_askTold_44 : decode cX9_askTold 44 = .ok (.aload_n 0, 1) := by decide +kernel
theorem dX9_askTold_45 : decode cX9_askTold 45 = .ok (.getfield 19, 3) := by decide +kernel
theorem dX9_askTold_48 : decode cX9_askTold 48 = .ok (.getfield 313, 3) := by decide +kernel
theorem dX9_askTold_51 : decode cX9_askTold 51 = .ok (.if_icmp .eq 6, 3) := by decide +kernel
theorem dX9_askTold_54 : decode cX9_askTold 54 = .ok (.bipush (-7), 2) := by decide +kernel
theorem dX9_askTold_56 : decode cX9_askTold 56 = .ok (.ireturn, 1) := by decide +kernel
theorem dX9_askTold_57 : decode cX9_askTold 57 = .ok (.aload_n 0, 1) := by decide +kernel
theorem dX9_askTold_58 : decode cX9_askTold 58 = .ok (.getfield 46, 3) := by decide +kernel
theorem dX9_askTold_61 : decode cX9_askTold 61 = .ok (.iload_n 1, 1) := by decide +kernel
theorem dX9_askTold_62 : decode cX9_askTold 62 = .ok (.sipush 9999, 3) := by decide +kernel
theorem dX9_askTold_65 : decode cX9_askTold 65 = .ok (.invokevirtual 303, 3) := by decide +kernel
theorem dX9_askTold_68 : decode cX9_askTold 68 = .ok (.ifCond .eq 7, 3) := by decide +kernel
theorem dX9_askTold_71 : decode cX9_askTold 71 = .ok (.iconst 0, 1) := by decide +kernel
theorem dX9_askTold_72 : decode cX9_askTold 72 = .ok (.goto 5, 3) := by decide +kernel
theorem dX9_askTold_75 : decode cX9_askTold 75 = .ok (.bipush (-2), 2) := by decide +kernel
theorem dX9_askTold_77 : decode cX9_askTold 77 = .ok (.ireturn, 1) := by decide +kernel
theorem dX9_mixed_0 : decode cX9_mixed 0 = .ok (.aload_n 0, 1) := by decide +kernel
theorem dX9_mixed_1 : decode cX9_mixed 1 = .ok (.getfield 19, 3) := by decide +kernel
theorem dX9_mixed_4 : decode cX9_mixed 4 = .ok (.iload_n 2, 1) := by decide +kernel
theorem dX9_mixed_5 : decode cX9_mixed 5 = .ok (.invokevirtual 204, 3) := by decide +kernel
theorem dX9_mixed_8 : decode cX9_mixed 8 = .ok (.ifCond .eq 10, 3) := by decide +kernel
theorem dX9_mixed_11 : decode cX9_mixed 11 = .ok (.iload_n 1, 1) := by decide +kernel
theorem dX9_mixed_12 : decode cX9_mixed 12 = .ok (.invokestatic 323, 3) := by decide +kernel
theorem dX9_mixed_15 : decode cX9_mixed 15 = .ok (.ifCond .ne 6, 3) := by decide +kernel
theorem dX9_mixed_18 : decode cX9_mixed 18 = .ok (.bipush (-2), 2) := by decide +kernel
theorem dX9_mixed_20 : decode cX9_mixed 20 = .ok (.ireturn, 1) := by decide +kernel
theorem dX9_mixed_21 : decode cX9_mixed 21 = .ok (.aload_n 0, 1) := by decide +kernel
theorem dX9_mixed_22 : decode cX9_mixed 22 = .ok (.getfield 76, 3) := by decide +kernel
theorem dX9_mixed_25 : decode cX9_mixed 25 = .ok (.aload_n 0, 1) := by decide +kernel
theorem dX9_mixed_26 : decode cX9_mixed 26 = .ok (.getfield 19, 3) := by decide +kernel
theorem dX9_mixed_29 : decode cX9_mixed 29 = .ok (.iload_n 1, 1) := by decide +kernel
theorem dX9_mixed_30 : decode cX9_mixed 30 = .ok (.iload_n 2, 1) := by decide +kernel
theorem dX9_mixed_31 : decode cX9_mixed 31 = .ok (.invokevirtual 326, 3) := by decide +kernel
theorem dX9_mixed_34 : decode cX9_mixed 34 = .ok (.ireturn, 1) := by decide +kernel
theorem dX9_luck_0 : decode cX9_luck 0 = .ok (.aload_n 0, 1) := by decide +kernel
theorem dX9_luck_1 : decode cX9_luck 1 = .ok (.getfield 19, 3) := by decide +kernel
theorem dX9_luck_4 : decode cX9_luck 4 = .ok (.iload_n 3, 1) := by decide +kernel
theorem dX9_luck_5 : decode cX9_luck 5 = .ok (.invokevirtual 204, 3) := by decide +kernel
theorem dX9_luck_8 : decode cX9_luck 8 = .ok (.ifCond .eq 21, 3) := by decide +kernel
theorem dX9_luck_11 : decode cX9_luck 11 = .ok (.iload_n 1, 1) := by decide +kernel
theorem dX9_luck_12 : decode cX9_luck 12 = .ok (.invokestatic 323, 3) := by decide +kernel
theorem dX9_luck_15 : decode cX9_luck 15 = .ok (.ifCond .eq 14, 3) := by decide +kernel
theorem dX9_luck_18 : decode cX9_luck 18 = .ok (.iload_n 2, 1) := by decide +kernel
theorem dX9_luck_19 : decode cX9_luck 19 = .ok (.iconst 1, 1) := by decide +kernel
theorem dX9_luck_20 : decode cX9_luck 20 = .ok (.if_icmp .lt 9, 3) := by decide +kernel
theorem dX9_luck_23 : decode cX9_luck 23 = .ok (.iload_n 2, 1) := by decide +kernel
theorem dX9_luck_24 : decode cX9_luck 24 = .ok (.bipush 20, 2) := by decide +kernel
theorem dX9_luck_26 : decode cX9_luck 26 = .ok (.if_icmp .le 6, 3) := by decide +kernel
theorem dX9_luck_29 : decode cX9_luck 29 = .ok (.bipush (-2), 2) := by decide +kernel
theorem dX9_luck_31 : decode cX9_luck 31 = .ok (.ireturn, 1) := by decide +kernel
theorem dX9_luck_32 : decode cX9_luck 32 = .ok (.aload_n 0, 1) := by decide +kernel
theorem dX9_luck_33 : decode cX9_luck 33 = .ok (.getfield 53, 3) := by decide +kernel
theorem dX9_luck_36 : decode cX9_luck 36 = .ok (.aload_n 0, 1) := by decide +kernel
theorem dX9_luck_37 : decode cX9_luck 37 = .ok (.getfield 19, 3) := by decide +kernel
theorem dX9_luck_40 : decode cX9_luck 40 = .ok (.iload_n 3, 1) := by decide +kernel
theorem dX9_luck_41 : decode cX9_luck 41 = .ok (.invokevirtual 207, 3) := by decide +kernel
theorem dX9_luck_44 : decode cX9_luck 44 = .ok (.istore 4, 2) := by decide +kernel
theorem dX9_luck_46 : decode cX9_luck 46 = .ok (.iconst 0, 1) := by decide +kernel
theorem dX9_luck_47 : decode cX9_luck 47 = .ok (.istore 5, 2) := by decide +kernel
theorem dX9_luck_49 : decode cX9_luck 49 = .ok (.iconst 0, 1) := by decide +kernel
theorem dX9_luck_50 : decode cX9_luck 50 = .ok (.istore 6, 2) := by decide +kernel
theorem dX9_luck_52 : decode cX9_luck 52 = .ok (.iload 6, 2) := by decide +kernel
theorem dX9_luck_54 : decode cX9_luck 54 = .ok (.iload_n 2, 1) := by decide +kernel
theorem dX9_luck_55 : decode cX9_luck 55 = .ok (.if_icmp .ge 33, 3) := by decide +kernel
theorem dX9_luck_58 : decode cX9_luck 58 = .ok (.aload_n 0, 1) := by decide +kernel
theorem dX9_luck_59 : decode cX9_luck 59 = .ok (.getfield 76, 3) := by decide +kernel
theorem dX9_luck_62 : decode cX9_luck 62 = .ok (.aload_n 0, 1) := by decide +kernel
theorem dX9_luck_63 : decode cX9_luck 63 = .ok (.getfield 19, 3) := by decide +kernel
theorem dX9_luck_66 : decode cX9_luck 66 = .ok (.iload_n 1, 1) := by decide +kernel
theorem dX9_luck_67 : decode cX9_luck 67 = .ok (.iload 6, 2) := by decide +kernel
theorem dX9_luck_69 : decode cX9_luck 69 = .ok (.iadd, 1) := by decide +kernel
theorem dX9_luck_70 : decode cX9_luck 70 = .ok (.iload_n 3, 1) := by decide +kernel
theorem dX9_luck_71 : decode cX9_luck 71 = .ok (.invokevirtual 326, 3) := by decide +kernel
theorem dX9_luck_74 : decode cX9_luck 74 = .ok (.iload 4, 2) := by decide +kernel
theorem dX9_luck_76 : decode cX9_luck 76 = .ok (.if_icmp .le 6, 3) := by decide +kernel
theorem dX9_luck_79 : decode cX9_luck 79 = .ok (.iinc 5 1, 3) := by decide +kernel
theorem dX9_luck_82 : decode cX9_luck 82 = .ok (.iinc 6 1, 3) := by decide +kernel
theorem dX9_luck_85 : decode cX9_luck 85 = .ok (.goto (-33), 3) := by decide +kernel
theorem dX9_luck_88 : decode cX9_luck 88 = .ok (.iload 5, 2) := by decide +kernel
theorem dX9_luck_90 : decode cX9_luck 90 = .ok (.ireturn, 1) := by decide +kernel
theorem dX9_isSeed_0 : decode cX9_isSeed 0 = .ok (.iload_n 0, 1) := by decide +kernel
theorem dX9_isSeed_1 : decode cX9_isSeed 1 = .ok (.ifCond .lt 14, 3) := by decide +kernel
theorem dX9_isSeed_4 : decode cX9_isSeed 4 = .ok (.iload_n 0, 1) := by decide +kernel
theorem dX9_isSeed_5 : decode cX9_isSeed 5 = .ok (.ldc_w 328, 3) := by decide +kernel
theorem dX9_isSeed_8 : decode cX9_isSeed 8 = .ok (.if_icmp .gt 7, 3) := by decide +kernel
theorem dX9_isSeed_11 : decode cX9_isSeed 11 = .ok (.iconst 1, 1) := by decide +kernel
theorem dX9_isSeed_12 : decode cX9_isSeed 12 = .ok (.goto 4, 3) := by decide +kernel
theorem dX9_isSeed_15 : decode cX9_isSeed 15 = .ok (.iconst 0, 1) := by decide +kernel
theorem dX9_isSeed_16 : decode cX9_isSeed 16 = .ok (.ireturn, 1) := by decide +kernel
theorem dX9_free_0 : decode cX9_free 0 = .ok (.aload_n 0, 1) := by decide +kernel
theorem dX9_free_1 : decode cX9_free 1 = .ok (.getfield 19, 3) := by decide +kernel
theorem dX9_free_4 : decode cX9_free 4 = .ok (.iload_n 1, 1) := by decide +kernel
theorem dX9_free_5 : decode cX9_free 5 = .ok (.invokevirtual 204, 3) := by decide +kernel
theorem dX9_free_8 : decode cX9_free 8 = .ok (.ifCond .ne 6, 3) := by decide +kernel
theorem dX9_free_11 : decode cX9_free 11 = .ok (.bipush (-2), 2) := by decide +kernel
theorem dX9_free_13 : decode cX9_free 13 = .ok (.ireturn, 1) := by decide +kernel
theorem dX9_free_14 : decode cX9_free 14 = .ok (.aload_n 0, 1) := by decide +kernel
theorem dX9_free_15 : decode cX9_free 15 = .ok (.getfield 62, 3) := by decide +kernel
theorem dX9_free_18 : decode cX9_free 18 = .ok (.aload_n 0, 1) := by decide +kernel
theorem dX9_free_19 : decode cX9_free 19 = .ok (.getfield 19, 3) := by decide +kernel
theorem dX9_free_22 : decode cX9_free 22 = .ok (.invokevirtual 224, 3) := by decide +kernel
theorem dX9_free_25 : decode cX9_free 25 = .ok (.iconst 2, 1) := by decide +kernel
theorem dX9_free_26 : decode cX9_free 26 = .ok (.istore_n 2, 1) := by decide +kernel
theorem dX9_free_27 : decode cX9_free 27 = .ok (.iload_n 2, 1) := by decide +kernel
theorem dX9_free_28 : decode cX9_free 28 = .ok (.bipush 100, 2) := by decide +kernel
theorem dX9_free_30 : decode cX9_free 30 = .ok (.if_icmp .gt 42, 3) := by decide +kernel
theorem dX9_free_33 : decode cX9_free 33 = .ok (.aload_n 0, 1) := by decide +kernel
theorem dX9_free_34 : decode cX9_free 34 = .ok (.getfield 62, 3) := by decide +kernel
theorem dX9_free_37 : decode cX9_free 37 = .ok (.getfield 256, 3) := by decide +kernel
theorem dX9_free_40 : decode cX9_free 40 = .ok (.getfield 156, 3) := by decide +kernel
theorem dX9_free_43 : decode cX9_free 43 = .ok (.iconst 3, 1) := by decide +kernel
theorem dX9_free_44 : decode cX9_free 44 = .ok (.iload_n 2, 1) := by decide +kernel
theorem dX9_free_45 : decode cX9_free 45 = .ok (.iastore, 1) := by decide +kernel
theorem dX9_free_46 : decode cX9_free 46 = .ok (.aload_n 0, 1) := by decide +kernel
theorem dX9_free_47 : decode cX9_free 47 = .ok (.getfield 53, 3) := by decide +kernel
theorem dX9_free_50 : decode cX9_free 50 = .ok (.aload_n 0, 1) := by decide +kernel
theorem dX9_free_51 : decode cX9_free 51 = .ok (.getfield 62, 3) := by decide +kernel
theorem dX9_free_54 : decode cX9_free 54 = .ok (.getfield 256, 3) := by decide +kernel
theorem dX9_free_57 : decode cX9_free 57 = .ok (.iload_n 1, 1) := by decide +kernel
theorem dX9_free_58 : decode cX9_free 58 = .ok (.invokevirtual 207, 3) := by decide +kernel
theorem dX9_free_61 : decode cX9_free 61 = .ok (.ifCond .ne 5, 3) := by decide +kernel
theorem dX9_free_64 : decode cX9_free 64 = .ok (.iload_n 2, 1) := by decide +kernel
theorem dX9_free_65 : decode cX9_free 65 = .ok (.ireturn, 1) := by decide +kernel
theorem dX9_free_66 : decode cX9_free 66 = .ok (.iinc 2 1, 3) := by decide +kernel
theorem dX9_free_69 : decode cX9_free 69 = .ok (.goto (-42), 3) := by decide +kernel
theorem dX9_free_72 : decode cX9_free 72 = .ok (.iconst (-1), 1) := by decide +kernel
theorem dX9_free_73 : decode cX9_free 73 = .ok (.ireturn, 1) := by decide +kernel
theorem dX9_all_0 : decode cX9_all 0 = .ok (.aload_n 0, 1) := by decide +kernel
theorem dX9_all_1 : decode cX9_all 1 = .ok (.getfield 19, 3) := by decide +kernel
theorem dX9_all_4 : decode cX9_all 4 = .ok (.invokevirtual 149, 3) := by decide +kernel
theorem dX9_all_7 : decode cX9_all 7 = .ok (.ifCond .eq 12, 3) := by decide +kernel
theorem dX9_all_10 : decode cX9_all 10 = .ok (.iload_n 1, 1) := by decide +kernel
theorem dX9_all_11 : decode cX9_all 11 = .ok (.ifCond .lt 8, 3) := by decide +kernel
theorem dX9_all_14 : decode cX9_all 14 = .ok (.iload_n 1, 1) := by decide +kernel
theorem dX9_all_15 : decode cX9_all 15 = .ok (.iconst 3, 1) := by decide +kernel
theorem dX9_all_16 : decode cX9_all 16 = .ok (.if_icmp .le 6, 3) := by decide +kernel
theorem dX9_all_19 : decode cX9_all 19 = .ok (.bipush (-2), 2) := by decide +kernel
theorem dX9_all_21 : decode cX9_all 21 = .ok (.ireturn, 1) := by decide +kernel
theorem dX9_all_22 : decode cX9_all 22 = .ok (.aload_n 0, 1) := by decide +kernel
theorem dX9_all_23 : decode cX9_all 23 = .ok (.getfield 62, 3) := by decide +kernel
theorem dX9_all_26 : decode cX9_all 26 = .ok (.aload_n 0, 1) := by decide +kernel
theorem dX9_all_27 : decode cX9_all 27 = .ok (.getfield 19, 3) := by decide +kernel
theorem dX9_all_30 : decode cX9_all 30 = .ok (.invokevirtual 224, 3) := by decide +kernel
theorem dX9_all_33 : decode cX9_all 33 = .ok (.aload_n 0, 1) := by decide +kernel
theorem dX9_all_34 : decode cX9_all 34 = .ok (.getfield 62, 3) := by decide +kernel
theorem dX9_all_37 : decode cX9_all 37 = .ok (.getfield 256, 3) := by decide +kernel
theorem dX9_all_40 : decode cX9_all 40 = .ok (.getfield 156, 3) := by decide +kernel
theorem dX9_all_43 : decode cX9_all 43 = .ok (.iconst 1, 1) := by decide +kernel
theorem dX9_all_44 : decode cX9_all 44 = .ok (.iload_n 1, 1) := by decide +kernel
theorem dX9_all_45 : decode cX9_all 45 = .ok (.iconst 2, 1) := by decide +kernel
theorem dX9_all_46 : decode cX9_all 46 = .ok (.irem, 1) := by decide +kernel
theorem dX9_all_47 : decode cX9_all 47 = .ok (.iastore, 1) := by decide +kernel
theorem dX9_all_48 : decode cX9_all 48 = .ok (.aload_n 0, 1) := by decide +kernel
theorem dX9_all_49 : decode cX9_all 49 = .ok (.getfield 62, 3) := by decide +kernel
theorem dX9_all_52 : decode cX9_all 52 = .ok (.getfield 256, 3) := by decide +kernel
theorem dX9_all_55 : decode cX9_all 55 = .ok (.getfield 156, 3) := by decide +kernel
theorem dX9_all_58 : decode cX9_all 58 = .ok (.iconst 0, 1) := by decide +kernel
theorem dX9_all_59 : decode cX9_all 59 = .ok (.iload_n 1, 1) := by decide +kernel
theorem dX9_all_60 : decode cX9_all 60 = .ok (.iconst 2, 1) := by decide +kernel
theorem dX9_all_61 : decode cX9_all 61 = .ok (.idiv, 1) := by decide +kernel
theorem dX9_all_62 : decode cX9_all 62 = .ok (.iastore, 1) := by decide +kernel
theorem dX9_all_63 : decode cX9_all 63 = .ok (.aload_n 0, 1) := by decide +kernel
theorem dX9_all_64 : decode cX9_all 64 = .ok (.getfield 53, 3) := by decide +kernel
theorem dX9_all_67 : decode cX9_all 67 = .ok (.aload_n 0, 1) := by decide +kernel
theorem dX9_all_68 : decode cX9_all 68 = .ok (.getfield 62, 3) := by decide +kernel
theorem dX9_all_71 : decode cX9_all 71 = .ok (.getfield 256, 3) := by decide +kernel
theorem dX9_all_74 : decode cX9_all 74 = .ok (.invokevirtual 190, 3) := by decide +kernel
theorem dX9_all_77 : decode cX9_all 77 = .ok (.aload_n 0, 1) := by decide +kernel
theorem dX9_all_78 : decode cX9_all 78 = .ok (.getfield 19, 3) := by decide +kernel
theorem dX9_all_81 : decode cX9_all 81 = .ok (.getfield 156, 3) := by decide +kernel
theorem dX9_all_84 : decode cX9_all 84 = .ok (.iconst 4, 1) := by decide +kernel
theorem dX9_all_85 : decode cX9_all 85 = .ok (.iaload, 1) := by decide +kernel
theorem dX9_all_86 : decode cX9_all 86 = .ok (.imul, 1) := by decide +kernel
theorem dX9_all_87 : decode cX9_all 87 = .ok (.ireturn, 1) := by decide +kernel
theorem dX9_count_0 : decode cX9_count 0 = .ok (.iload_n 1, 1) := by decide +kernel
theorem dX9_count_1 : decode cX9_count 1 = .ok (.tableswitch 123 0 8 #[51, 59, 67, 75, 83, 91, 99, 107, 115], 51) := by decide +kernel
theorem dX9_count_52 : decode cX9_count 52 = .ok (.aload_n 0, 1) := by decide +kernel
theorem dX9_count_53 : decode cX9_count 53 = .ok (.getfield 19, 3) := by decide +kernel
theorem dX9_count_56 : decode cX9_count 56 = .ok (.getfield 313, 3) := by decide +kernel
theorem dX9_count_59 : decode cX9_count 59 = .ok (.ireturn, 1) := by decide +kernel
theorem dX9_count_60 : decode cX9_count 60 = .ok (.aload_n 0, 1) := by decide +kernel
theorem dX9_count_61 : decode cX9_count 61 = .ok (.getfield 19, 3) := by decide +kernel
theorem dX9_count_64 : decode cX9_count 64 = .ok (.getfield 329, 3) := by decide +kernel
theorem dX9_count_67 : decode cX9_count 67 = .ok (.ireturn, 1) := by decide +kernel
theorem dX9_count_68 : decode cX9_count 68 = .ok (.aload_n 0, 1) := by decide +kernel
theorem dX9_count_69 : decode cX9_count 69 = .ok (.getfield 19, 3) := by decide +kernel
theorem dX9_count_72 : decode cX9_count 72 = .ok (.getfield 215, 3) := by decide +kernel
theorem dX9_count_75 : decode cX9_count 75 = .ok (.ireturn, 1) := by decide +kernel
theorem dX9_count_76 : decode cX9_count 76 = .ok (.aload_n 0, 1) := by decide +kernel
theorem dX9_count_77 : decode cX9_count 77 = .ok (.getfield 19, 3) := by decide +kernel
theorem dX9_count_80 : decode cX9_count 80 = .ok (.getfield 332, 3) := by decide +kernel
theorem dX9_count_83 : decode cX9_count 83 = .ok (.ireturn, 1) := by decide +kernel
theorem dX9_count_84 : decode cX9_count 84 = .ok (.aload_n 0, 1) := by decide +kernel
theorem dX9_count_85 : decode cX9_count 85 = .ok (.getfield 19, 3) := by decide +kernel
theorem dX9_count_88 : decode cX9_count 88 = .ok (.getfield 335, 3) := by decide +kernel
theorem dX9_count_91 : decode cX9_count 91 = .ok (.ireturn, 1) := by decide +kernel
theorem dX9_count_92 : decode cX9_count 92 = .ok (.aload_n 0, 1) := by decide +kernel
theorem dX9_count_93 : decode cX9_count 93 = .ok (.getfield 19, 3) := by decide +kernel
theorem dX9_count_96 : decode cX9_count 96 = .ok (.getfield 105, 3) := by decide +kernel
theorem dX9_count_99 : decode cX9_count 99 = .ok (.ireturn, 1) := by decide +kernel
theorem dX9_count_100 : decode cX9_count 100 = .ok (.aload_n 0, 1) := by decide +kernel
theorem dX9_count_101 : decode cX9_count 101 = .ok (.getfield 10, 3) := by decide +kernel
theorem dX9_count_104 : decode cX9_count 104 = .ok (.getfield 80, 3) := by decide +kernel
theorem dX9_count_107 : decode cX9_count 107 = .ok (.ireturn, 1) := by decide +kernel
theorem dX9_count_108 : decode cX9_count 108 = .ok (.aload_n 0, 1) := by decide +kernel
theorem dX9_count_109 : decode cX9_count 109 = .ok (.getfield 19, 3) := by decide +kernel
theorem dX9_count_112 : decode cX9_count 112 = .ok (.getfield 338, 3) := by decide +kernel
theorem dX9_count_115 : decode cX9_count 115 = .ok (.ireturn, 1) := by decide +kernel
theorem dX9_count_116 : decode cX9_count 116 = .ok (.aload_n 0, 1) := by decide +kernel
theorem dX9_count_117 : decode cX9_count 117 = .ok (.getfield 46, 3) := by decide +kernel
theorem dX9_count_120 : decode cX9_count 120 = .ok (.invokevirtual 341, 3) := by decide +kernel
theorem dX9_count_123 : decode cX9_count 123 = .ok (.ireturn, 1) := by decide +kernel
theorem dX9_count_124 : decode cX9_count 124 = .ok (.iconst (-1), 1) := by decide +kernel
theorem dX9_count_125 : decode cX9_count 125 = .ok (.ireturn, 1) := by decide +kernel
theorem dX9_keep_0 : decode cX9_keep 0 = .ok (.iload_n 1, 1) := by decide +kernel
theorem dX9_keep_1 : decode cX9_keep 1 = .ok (.ifCond .lt 8, 3) := by decide +kernel
theorem dX9_keep_4 : decode cX9_keep 4 = .ok (.iload_n 1, 1) := by decide +kernel
theorem dX9_keep_5 : decode cX9_keep 5 = .ok (.iconst 3, 1) := by decide +kernel
theorem dX9_keep_6 : decode cX9_keep 6 = .ok (.if_icmp .lt 6, 3) := by decide +kernel
theorem dX9_keep_9 : decode cX9_keep 9 = .ok (.bipush (-2), 2) := by decide +kernel
theorem dX9_keep_11 : decode cX9_keep 11 = .ok (.ireturn, 1) := by decide +kernel
theorem dX9_keep_12 : decode cX9_keep 12 = .ok (.aload_n 0, 1) := by decide +kernel
theorem dX9_keep_13 : decode cX9_keep 13 = .ok (.getfield 35, 3) := by decide +kernel
theorem dX9_keep_16 : decode cX9_keep 16 = .ok (.iload_n 1, 1) := by decide +kernel
theorem dX9_keep_17 : decode cX9_keep 17 = .ok (.aaload, 1) := by decide +kernel
theorem dX9_keep_18 : decode cX9_keep 18 = .ok (.aload_n 0, 1) := by decide +kernel
theorem dX9_keep_19 : decode cX9_keep 19 = .ok (.getfield 19, 3) := by decide +kernel
theorem dX9_keep_22 : decode cX9_keep 22 = .ok (.invokevirtual 101, 3) := by decide +kernel
theorem dX9_keep_25 : decode cX9_keep 25 = .ok (.aload_n 0, 1) := by decide +kernel
theorem dX9_keep_26 : decode cX9_keep 26 = .ok (.getfield 39, 3) := by decide +kernel
theorem dX9_keep_29 : decode cX9_keep 29 = .ok (.iload_n 1, 1) := by decide +kernel
theorem dX9_keep_30 : decode cX9_keep 30 = .ok (.iconst 1, 1) := by decide +kernel
theorem dX9_keep_31 : decode cX9_keep 31 = .ok (.bastore, 1) := by decide +kernel
theorem dX9_keep_32 : decode cX9_keep 32 = .ok (.iconst 0, 1) := by decide +kernel
theorem dX9_keep_33 : decode cX9_keep 33 = .ok (.ireturn, 1) := by decide +kernel
theorem dX9_back_0 : decode cX9_back 0 = .ok (.iload_n 1, 1) := by decide +kernel
theorem dX9_back_1 : decode cX9_back 1 = .ok (.ifCond .lt 8, 3) := by decide +kernel
theorem dX9_back_4 : decode cX9_back 4 = .ok (.iload_n 1, 1) := by decide +kernel
theorem dX9_back_5 : decode cX9_back 5 = .ok (.iconst 3, 1) := by decide +kernel
theorem dX9_back_6 : decode cX9_back 6 = .ok (.if_icmp .lt 6, 3) := by decide +kernel
theorem dX9_back_9 : decode cX9_back 9 = .ok (.bipush (-2), 2) := by decide +kernel
theorem dX9_back_11 : decode cX9_back 11 = .ok (.ireturn, 1) := by decide +kernel
theorem dX9_back_12 : decode cX9_back 12 = .ok (.aload_n 0, 1) := by decide +kernel
theorem dX9_back_13 : decode cX9_back 13 = .ok (.getfield 39, 3) := by decide +kernel
theorem dX9_back_16 : decode cX9_back 16 = .ok (.iload_n 1, 1) := by decide +kernel
theorem dX9_back_17 : decode cX9_back 17 = .ok (.baload, 1) := by decide +kernel
theorem dX9_back_18 : decode cX9_back 18 = .ok (.ifCond .ne 6, 3) := by decide +kernel
theorem dX9_back_21 : decode cX9_back 21 = .ok (.bipush (-6), 2) := by decide +kernel
theorem dX9_back_23 : decode cX9_back 23 = .ok (.ireturn, 1) := by decide +kernel
theorem dX9_back_24 : decode cX9_back 24 = .ok (.aload_n 0, 1) := by decide +kernel
theorem dX9_back_25 : decode cX9_back 25 = .ok (.getfield 19, 3) := by decide +kernel
theorem dX9_back_28 : decode cX9_back 28 = .ok (.aload_n 0, 1) := by decide +kernel
theorem dX9_back_29 : decode cX9_back 29 = .ok (.getfield 35, 3) := by decide +kernel
theorem dX9_back_32 : decode cX9_back 32 = .ok (.iload_n 1, 1) := by decide +kernel
theorem dX9_back_33 : decode cX9_back 33 = .ok (.aaload, 1) := by decide +kernel
theorem dX9_back_34 : decode cX9_back 34 = .ok (.invokevirtual 101, 3) := by decide +kernel
theorem dX9_back_37 : decode cX9_back 37 = .ok (.iconst 0, 1) := by decide +kernel
theorem dX9_back_38 : decode cX9_back 38 = .ok (.ireturn, 1) := by decide +kernel
theorem dX9_row_0 : decode cX9_row 0 = .ok (.iload_n 1, 1) := by decide +kernel
theorem dX9_row_1 : decode cX9_row 1 = .ok (.invokestatic 294, 3) := by decide +kernel
theorem dX9_row_4 : decode cX9_row 4 = .ok (.ifCond .eq 18, 3) := by decide +kernel
theorem dX9_row_7 : decode cX9_row 7 = .ok (.iload_n 2, 1) := by decide +kernel
theorem dX9_row_8 : decode cX9_row 8 = .ok (.ifCond .lt 14, 3) := by decide +kernel
theorem dX9_row_11 : decode cX9_row 11 = .ok (.iload_n 2, 1) := by decide +kernel
theorem dX9_row_12 : decode cX9_row 12 = .ok (.iconst 4, 1) := by decide +kernel
theorem dX9_row_13 : decode cX9_row 13 = .ok (.if_icmp .ge 9, 3) := by decide +kernel
theorem dX9_row_16 : decode cX9_row 16 = .ok (.iload_n 3, 1) := by decide +kernel
theorem dX9_row_17 : decode cX9_row 17 = .ok (.bipush 60, 2) := by decide +kernel
theorem dX9_row_19 : decode cX9_row 19 = .ok (.if_icmp .le 6, 3) := by decide +kernel
theorem dX9_row_22 : decode cX9_row 22 = .ok (.bipush (-2), 2) := by decide +kernel
theorem dX9_row_24 : decode cX9_row 24 = .ok (.ireturn, 1) := by decide +kernel
theorem dX9_row_25 : decode cX9_row 25 = .ok (.iload_n 3, 1) := by decide +kernel
theorem dX9_row_26 : decode cX9_row 26 = .ok (.ifCond .ge 6, 3) := by decide +kernel
theorem dX9_row_29 : decode cX9_row 29 = .ok (.bipush (-3), 2) := by decide +kernel
theorem dX9_row_31 : decode cX9_row 31 = .ok (.ireturn, 1) := by decide +kernel
theorem dX9_row_32 : decode cX9_row 32 = .ok (.aload_n 0, 1) := by decide +kernel
theorem dX9_row_33 : decode cX9_row 33 = .ok (.getfield 46, 3) := by decide +kernel
theorem dX9_row_36 : decode cX9_row 36 = .ok (.iload_n 1, 1) := by decide +kernel
theorem dX9_row_37 : decode cX9_row 37 = .ok (.iload_n 2, 1) := by decide +kernel
theorem dX9_row_38 : decode cX9_row 38 = .ok (.iload_n 3, 1) := by decide +kernel
theorem dX9_row_39 : decode cX9_row 39 = .ok (.invokevirtual 344, 3) := by decide +kernel
theorem dX9_row_42 : decode cX9_row 42 = .ok (.iconst 0, 1) := by decide +kernel
theorem dX9_row_43 : decode cX9_row 43 = .ok (.ireturn, 1) := by decide +kernel
theorem dX9_write_0 : decode cX9_write 0 = .ok (.iload_n 1, 1) := by decide +kernel
theorem dX9_write_1 : decode cX9_write 1 = .ok (.invokestatic 294, 3) := by decide +kernel
theorem dX9_write_4 : decode cX9_write 4 = .ok (.ifCond .ne 6, 3) := by decide +kernel
theorem dX9_write_7 : decode cX9_write 7 = .ok (.bipush (-2), 2) := by decide +kernel
theorem dX9_write_9 : decode cX9_write 9 = .ok (.ireturn, 1) := by decide +kernel
theorem dX9_write_10 : decode cX9_write 10 = .ok (.aload_n 0, 1) := by decide +kernel
theorem dX9_write_11 : decode cX9_write 11 = .ok (.getfield 46, 3) := by decide +kernel
theorem dX9_write_14 : decode cX9_write 14 = .ok (.iload_n 1, 1) := by decide +kernel
theorem dX9_write_15 : decode cX9_write 15 = .ok (.invokevirtual 297, 3) := by decide +kernel
theorem dX9_write_18 : decode cX9_write 18 = .ok (.ifCond .ne 6, 3) := by decide +kernel
theorem dX9_write_21 : decode cX9_write 21 = .ok (.bipush (-6), 2) := by decide +kernel
theorem dX9_write_23 : decode cX9_write 23 = .ok (.ireturn, 1) := by decide +kernel
theorem dX9_write_24 : decode cX9_write 24 = .ok (.iload_n 2, 1) := by decide +kernel
theorem dX9_write_25 : decode cX9_write 25 = .ok (.ifCond .lt 16, 3) := by decide +kernel
theorem dX9_write_28 : decode cX9_write 28 = .ok (.iload_n 2, 1) := by decide +kernel
theorem dX9_write_29 : decode cX9_write 29 = .ok (.aload_n 0, 1) := by decide +kernel
theorem dX9_write_30 : decode cX9_write 30 = .ok (.getfield 46, 3) := by decide +kernel
theorem dX9_write_33 : decode cX9_write 33 = .ok (.getfield 320, 3) := by decide +kernel
theorem dX9_write_36 : decode cX9_write 36 = .ok (.iload_n 1, 1) := by decide +kernel
theorem dX9_write_37 : decode cX9_write 37 = .ok (.iaload, 1) := by decide +kernel
theorem dX9_write_38 : decode cX9_write 38 = .ok (.if_icmp .lt 6, 3) := by decide +kernel
theorem dX9_write_41 : decode cX9_write 41 = .ok (.bipush (-7), 2) := by decide +kernel
theorem dX9_write_43 : decode cX9_write 43 = .ok (.ireturn, 1) := by decide +kernel
theorem dX9_write_44 : decode cX9_write 44 = .ok (.aload_n 0, 1) := by decide +kernel
theorem dX9_write_45 : decode cX9_write 45 = .ok (.getfield 46, 3) := by decide +kernel
theorem dX9_write_48 : decode cX9_write 48 = .ok (.getfield 316, 3) := by decide +kernel
theorem dX9_write_51 : decode cX9_write 51 = .ok (.iload_n 1, 1) := by decide +kernel
theorem dX9_write_52 : decode cX9_write 52 = .ok (.aaload, 1) := by decide +kernel
theorem dX9_write_53 : decode cX9_write 53 = .ok (.iload_n 2, 1) := by decide +kernel
theorem dX9_write_54 : decode cX9_write 54 = .ok (.lload_n 3, 1) := by decide +kernel
theorem dX9_write_55 : decode cX9_write 55 = .ok (.aload_n 0, 1) := by decide +kernel
theorem dX9_write_56 : decode cX9_write 56 = .ok (.getfield 46, 3) := by decide +kernel
theorem dX9_write_59 : decode cX9_write 59 = .ok (.getfield 347, 3) := by decide +kernel
theorem dX9_write_62 : decode cX9_write 62 = .ok (.iload_n 1, 1) := by decide +kernel
theorem dX9_write_63 : decode cX9_write 63 = .ok (.iaload, 1) := by decide +kernel
theorem dX9_write_64 : decode cX9_write 64 = .ok (.invokestatic 350, 3) := by decide +kernel
theorem dX9_write_67 : decode cX9_write 67 = .ok (.lastore, 1) := by decide +kernel
theorem dX9_write_68 : decode cX9_write 68 = .ok (.iconst 0, 1) := by decide +kernel
theorem dX9_write_69 : decode cX9_write 69 = .ok (.ireturn, 1) := by decide +kernel
theorem dX9_paste_0 : decode cX9_paste 0 = .ok (.iload_n 1, 1) := by decide +kernel
theorem dX9_paste_1 : decode cX9_paste 1 = .ok (.invokestatic 294, 3) := by decide +kernel
theorem dX9_paste_4 : decode cX9_paste 4 = .ok (.ifCond .eq 10, 3) := by decide +kernel
theorem dX9_paste_7 : decode cX9_paste 7 = .ok (.iload_n 3, 1) := by decide +kernel
theorem dX9_paste_8 : decode cX9_paste 8 = .ok (.invokestatic 294, 3) := by decide +kernel
theorem dX9_paste_11 : decode cX9_paste 11 = .ok (.ifCond .ne 6, 3) := by decide +kernel
theorem dX9_paste_14 : decode cX9_paste 14 = .ok (.bipush (-2), 2) := by decide +kernel
theorem dX9_paste_16 : decode cX9_paste 16 = .ok (.ireturn, 1) := by decide +kernel
theorem dX9_paste_17 : decode cX9_paste 17 = .ok (.aload_n 0, 1) := by decide +kernel
theorem dX9_paste_18 : decode cX9_paste 18 = .ok (.getfield 46, 3) := by decide +kernel
theorem dX9_paste_21 : decode cX9_paste 21 = .ok (.iload_n 1, 1) := by decide +kernel
theorem dX9_paste_22 : decode cX9_paste 22 = .ok (.invokevirtual 297, 3) := by decide +kernel
theorem dX9_paste_25 : decode cX9_paste 25 = .ok (.ifCond .eq 14, 3) := by decide +kernel
theorem dX9_paste_28 : decode cX9_paste 28 = .ok (.aload_n 0, 1) := by decide +kernel
theorem dX9_paste_29 : decode cX9_paste 29 = .ok (.getfield 46, 3) := by decide +kernel
theorem dX9_paste_32 : decode cX9_paste 32 = .ok (.iload_n 3, 1) := by decide +kernel
theorem dX9_paste_33 : decode cX9_paste 33 = .ok (.invokevirtual 297, 3) := by decide +kernel
theorem dX9_paste_36 : decode cX9_paste 36 = .ok (.ifCond .ne 6, 3) := by decide +kernel
theorem dX9_paste_39 : decode cX9_paste 39 = .ok (.bipush (-6), 2) := by decide +kernel
theorem dX9_paste_41 : decode cX9_paste 41 = .ok (.ireturn, 1) := by decide +kernel
theorem dX9_paste_42 : decode cX9_paste 42 = .ok (.aload_n 0, 1) := by decide +kernel
theorem dX9_paste_43 : decode cX9_paste 43 = .ok (.getfield 46, 3) := by decide +kernel
theorem dX9_paste_46 : decode cX9_paste 46 = .ok (.getfield 347, 3) := by decide +kernel
theorem dX9_paste_49 : decode cX9_paste 49 = .ok (.iload_n 1, 1) := by decide +kernel
theorem dX9_paste_50 : decode cX9_paste 50 = .ok (.iaload, 1) := by decide +kernel
theorem dX9_paste_51 : decode cX9_paste 51 = .ok (.aload_n 0, 1) := by decide +kernel
theorem dX9_paste_52 : decode cX9_paste 52 = .ok (.getfield 46, 3) := by decide +kernel
theorem dX9_paste_55 : decode cX9_paste 55 = .ok (.getfield 347, 3) := by decide +kernel
theorem dX9_paste_58 : decode cX9_paste 58 = .ok (.iload_n 3, 1) := by decide +kernel
theorem dX9_paste_59 : decode cX9_paste 59 = .ok (.iaload, 1) := by decide +kernel
theorem dX9_paste_60 : decode cX9_paste 60 = .ok (.if_icmp .eq 6, 3) := by decide +kernel
theorem dX9_paste_63 : decode cX9_paste 63 = .ok (.bipush (-8), 2) := by decide +kernel
theorem dX9_paste_65 : decode cX9_paste 65 = .ok (.ireturn, 1) := by decide +kernel
theorem dX9_paste_66 : decode cX9_paste 66 = .ok (.aload_n 0, 1) := by decide +kernel
theorem dX9_paste_67 : decode cX9_paste 67 = .ok (.getfield 46, 3) := by decide +kernel
theorem dX9_paste_70 : decode cX9_paste 70 = .ok (.iload_n 1, 1) := by decide +kernel
theorem dX9_paste_71 : decode cX9_paste 71 = .ok (.iload_n 2, 1) := by decide +kernel
theorem dX9_paste_72 : decode cX9_paste 72 = .ok (.iload 5, 2) := by decide +kernel
theorem dX9_paste_74 : decode cX9_paste 74 = .ok (.invokevirtual 354, 3) := by decide +kernel
theorem dX9_paste_77 : decode cX9_paste 77 = .ok (.ifCond .eq 18, 3) := by decide +kernel
theorem dX9_paste_80 : decode cX9_paste 80 = .ok (.aload_n 0, 1) := by decide +kernel
theorem dX9_paste_81 : decode cX9_paste 81 = .ok (.getfield 46, 3) := by decide +kernel
theorem dX9_paste_84 : decode cX9_paste 84 = .ok (.iload_n 3, 1) := by decide +kernel
theorem dX9_paste_85 : decode cX9_paste 85 = .ok (.iload 4, 2) := by decide +kernel
theorem dX9_paste_87 : decode cX9_paste 87 = .ok (.iload 5, 2) := by decide +kernel
theorem dX9_paste_89 : decode cX9_paste 89 = .ok (.invokevirtual 354, 3) := by decide +kernel
theorem dX9_paste_92 : decode cX9_paste 92 = .ok (.ifCond .ne 6, 3) := by decide +kernel
theorem dX9_paste_95 : decode cX9_paste 95 = .ok (.bipush (-7), 2) := by decide +kernel
theorem dX9_paste_97 : decode cX9_paste 97 = .ok (.ireturn, 1) := by decide +kernel
theorem dX9_paste_98 : decode cX9_paste 98 = .ok (.aload_n 0, 1) := by decide +kernel
theorem dX9_paste_99 : decode cX9_paste 99 = .ok (.getfield 46, 3) := by decide +kernel
theorem dX9_paste_102 : decode cX9_paste 102 = .ok (.getfield 316, 3) := by decide +kernel
theorem dX9_paste_105 : decode cX9_paste 105 = .ok (.iload_n 1, 1) := by decide +kernel
theorem dX9_paste_106 : decode cX9_paste 106 = .ok (.aaload, 1) := by decide +kernel
theorem dX9_paste_107 : decode cX9_paste 107 = .ok (.iload_n 2, 1) := by decide +kernel
theorem dX9_paste_108 : decode cX9_paste 108 = .ok (.aload_n 0, 1) := by decide +kernel
theorem dX9_paste_109 : decode cX9_paste 109 = .ok (.getfield 46, 3) := by decide +kernel
theorem dX9_paste_112 : decode cX9_paste 112 = .ok (.getfield 316, 3) := by decide +kernel
theorem dX9_paste_115 : decode cX9_paste 115 = .ok (.iload_n 3, 1) := by decide +kernel
theorem dX9_paste_116 : decode cX9_paste 116 = .ok (.aaload, 1) := by decide +kernel
theorem dX9_paste_117 : decode cX9_paste 117 = .ok (.iload 4, 2) := by decide +kernel
theorem dX9_paste_119 : decode cX9_paste 119 = .ok (.iload 5, 2) := by decide +kernel
theorem dX9_paste_121 : decode cX9_paste 121 = .ok (.invokestatic 358, 3) := by decide +kernel
theorem dX9_paste_124 : decode cX9_paste 124 = .ok (.iconst 0, 1) := by decide +kernel
theorem dX9_paste_125 : decode cX9_paste 125 = .ok (.ireturn, 1) := by decide +kernel
theorem dX10_init_0 : decode cX10_init 0 = .ok (.aload_n 0, 1) := by decide +kernel
theorem dX10_init_1 : decode cX10_init 1 = .ok (.invokespecial 1, 3) := by decide +kernel
theorem dX10_init_4 : decode cX10_init 4 = .ok (.aload_n 0, 1) := by decide +kernel
theorem dX10_init_5 : decode cX10_init 5 = .ok (.iconst 4, 1) := by decide +kernel
theorem dX10_init_6 : decode cX10_init 6 = .ok (.newarray .int, 2) := by decide +kernel
theorem dX10_init_8 : decode cX10_init 8 = .ok (.putfield 7, 3) := by decide +kernel
theorem dX10_init_11 : decode cX10_init 11 = .ok (.aload_n 0, 1) := by decide +kernel
theorem dX10_init_12 : decode cX10_init 12 = .ok (.iconst 4, 1) := by decide +kernel
theorem dX10_init_13 : decode cX10_init 13 = .ok (.newarray .int, 2) := by decide +kernel
theorem dX10_init_15 : decode cX10_init 15 = .ok (.putfield 13, 3) := by decide +kernel
theorem dX10_init_18 : decode cX10_init 18 = .ok (.aload_n 0, 1) := by decide +kernel
theorem dX10_init_19 : decode cX10_init 19 = .ok (.sipush 240, 3) := by decide +kernel
theorem dX10_init_22 : decode cX10_init 22 = .ok (.newarray .long, 2) := by decide +kernel
theorem dX10_init_24 : decode cX10_init 24 = .ok (.putfield 16, 3) := by decide +kernel
theorem dX10_init_27 : decode cX10_init 27 = .ok (.aload_n 0, 1) := by decide +kernel
theorem dX10_init_28 : decode cX10_init 28 = .ok (.bipush 60, 2) := by decide +kernel
theorem dX10_init_30 : decode cX10_init 30 = .ok (.newarray .long, 2) := by decide +kernel
theorem dX10_init_32 : decode cX10_init 32 = .ok (.putfield 20, 3) := by decide +kernel
theorem dX10_init_35 : decode cX10_init 35 = .ok (.aload_n 0, 1) := by decide +kernel
theorem dX10_init_36 : decode cX10_init 36 = .ok (.sipush 1600, 3) := by decide +kernel
theorem dX10_init_39 : decode cX10_init 39 = .ok (.newarray .byte, 2) := by decide +kernel
theorem dX10_init_41 : decode cX10_init 41 = .ok (.putfield 23, 3) := by decide +kernel
theorem dX10_init_44 : decode cX10_init 44 = .ok (.aload_n 0, 1) := by decide +kernel
theorem dX10_init_45 : decode cX10_init 45 = .ok (.iconst (-1), 1) := by decide +kernel
theorem dX10_init_46 : decode cX10_init 46 = .ok (.putfield 27, 3) := by decide +kernel
theorem dX10_init_49 : decode cX10_init 49 = .ok (.aload_n 0, 1) := by decide +kernel
theorem dX10_init_50 : decode cX10_init 50 = .ok (.iconst 5, 1) := by decide +kernel
theorem dX10_init_51 : decode cX10_init 51 = .ok (.newarray .int, 2) := by decide +kernel
theorem dX10_init_53 : decode cX10_init 53 = .ok (.putfield 31, 3) := by decide +kernel
theorem dX10_init_56 : decode cX10_init 56 = .ok (.aload_n 0, 1) := by decide +kernel
theorem dX10_init_57 : decode cX10_init 57 = .ok (.bipush 30, 2) := by decide +kernel
theorem dX10_init_59 : decode cX10_init 59 = .ok (.newarray .int, 2) := by decide +kernel
theorem dX10_init_61 : decode cX10_init 61 = .ok (.putfield 34, 3) := by decide +kernel
theorem dX10_init_64 : decode cX10_init 64 = .ok (.aload_n 0, 1) := by decide +kernel
theorem dX10_init_65 : decode cX10_init 65 = .ok (.bipush 25, 2) := by decide +kernel
theorem dX10_init_67 : decode cX10_init 67 = .ok (.newarray .int, 2) := by decide +kernel
theorem dX10_init_69 : decode cX10_init 69 = .ok (.putfield 37, 3) := by decide +kernel
theorem dX10_init_72 : decode cX10_init 72 = .ok (.aload_n 0, 1) := by decide +kernel
theorem dX10_init_73 : decode cX10_init 73 = .ok (.bipush 20, 2) := by decide +kernel
theorem dX10_init_75 : decode cX10_init 75 = .ok (.newarray .int, 2) := by decide +kernel
theorem dX10_init_77 : decode cX10_init 77 = .ok (.putfield 40, 3) := by decide +kernel
theorem dX10_init_80 : decode cX10_init 80 = .ok (.aload_n 0, 1) := by decide +kernel
theorem dX10_init_81 : decode cX10_init 81 = .ok (.sipush 180, 3) := by decide +kernel
theorem dX10_init_84 : decode cX10_init 84 = .ok (.newarray .int, 2) := by decide +kernel
theorem dX10_init_86 : decode cX10_init 86 = .ok (.putfield 43, 3) := by decide +kernel
theorem dX10_init_89 : decode cX10_init 89 = .ok (.aload_n 0, 1) := by decide +kernel
theorem dX10_init_90 : decode cX10_init 90 = .ok (.sipush 520, 3) := by decide +kernel
theorem dX10_init_93 : decode cX10_init 93 = .ok (.newarray .int, 2) := by decide +kernel
theorem dX10_init_95 : decode cX10_init 95 = .ok (.putfield 46, 3) := by decide +kernel
theorem dX10_init_98 : decode cX10_init 98 = .ok (.aload_n 0, 1) := by decide +kernel
theorem dX10_init_99 : decode cX10_init 99 = .ok (.iconst 3, 1) := by decide +kernel
theorem dX10_init_100 : decode cX10_init 100 = .ok (.newarray .boolean, 2) := by decide +kernel
theorem dX10_init_102 : decode cX10_init 102 = .ok (.putfield 49, 3) := by decide +kernel
theorem dX10_init_105 : decode cX10_init 105 = .ok (.aload_n 0, 1) := by decide +kernel
theorem dX10_init_106 : decode cX10_init 106 = .ok (.iconst (-1), 1) := by decide +kernel
theorem dX10_init_107 : decode cX10_init 107 = .ok (.putfield 53, 3) := by decide +kernel
theorem dX10_init_110 : decode cX10_init 110 = .ok (.aload_n 0, 1) := by decide +kernel
theorem dX10_init_111 : decode cX10_init 111 = .ok (.bipush 13, 2) := by decide +kernel
theorem dX10_init_113 : decode cX10_init 113 = .ok (.newarray .int, 2) := by decide +kernel
theorem dX10_init_115 : decode cX10_init 115 = .ok (.putfield 56, 3) := by decide +kernel
theorem dX10_init_118 : decode cX10_init 118 = .ok (.aload_n 0, 1) := by decide +kernel
theorem dX10_init_119 : decode cX10_init 119 = .ok (.iconst 4, 1) := by decide +kernel
theorem dX10_init_120 : decode cX10_init 120 = .ok (.newarray .int, 2) := by decide +kernel
theorem dX10_init_122 : decode cX10_init 122 = .ok (.putfield 59, 3) := by decide +kernel
theorem dX10_init_125 : decode cX10_init 125 = .ok (.aload_n 0, 1) := by decide +kernel
theorem dX10_init_126 : decode cX10_init 126 = .ok (.bipush 36, 2) := by decide +kernel
theorem dX10_init_128 : decode cX10_init 128 = .ok (.newarray .int, 2) := by decide +kernel
theorem dX10_init_130 : decode cX10_init 130 = .ok (.putfield 62, 3) := by decide +kernel
theorem dX10_init_133 : decode cX10_init 133 = .ok (.aload_n 0, 1) := by decide +kernel
theorem dX10_init_134 : decode cX10_init 134 = .ok (.bipush 36, 2) := by decide +kernel
theorem dX10_init_136 : decode cX10_init 136 = .ok (.newarray .int, 2) := by decide +kernel
theorem dX10_init_138 : decode cX10_init 138 = .ok (.putfield 65, 3) := by decide +kernel
theorem dX10_init_141 : decode cX10_init 141 = .ok (.aload_n 0, 1) := by decide +kernel
theorem dX10_init_142 : decode cX10_init 142 = .ok (.bipush 36, 2) := by decide +kernel
theorem dX10_init_144 : decode cX10_init 144 = .ok (.newarray .int, 2) := by decide +kernel
theorem dX10_init_146 : decode cX10_init 146 = .ok (.putfield 68, 3) := by decide +kernel
theorem dX10_init_149 : decode cX10_init 149 = .ok (.aload_n 0, 1) := by decide +kernel
theorem dX10_init_150 : decode cX10_init 150 = .ok (.sipush 2574, 3) := by decide +kernel
theorem dX10_init_153 : decode cX10_init 153 = .ok (.newarray .int, 2) := by decide +kernel
theorem dX10_init_155 : decode cX10_init 155 = .ok (.putfield 71, 3) := by decide +kernel
theorem dX10_init_158 : decode cX10_init 158 = .ok (.aload_n 0, 1) := by decide +kernel
theorem dX10_init_159 : decode cX10_init 159 = .ok (.sipush 5200, 3) := by decide +kernel
theorem dX10_init_162 : decode cX10_init 162 = .ok (.newarray .int, 2) := by decide +kernel
theorem dX10_init_164 : decode cX10_init 164 = .ok (.putfield 74, 3) := by decide +kernel
theorem dX10_init_167 : decode cX10_init 167 = .ok (.aload_n 0, 1) := by decide +kernel
theorem dX10_init_168 : decode cX10_init 168 = .ok (.iconst 5, 1) := by decide +kernel
theorem dX10_init_169 : decode cX10_init 169 = .ok (.newarray .int, 2) := by decide +kernel
theorem dX10_init_171 : decode cX10_init 171 = .ok (.putfield 77, 3) := by decide +kernel
theorem dX10_init_174 : decode cX10_init 174 = .ok (.aload_n 0, 1) := by decide +kernel
theorem dX10_init_175 : decode cX10_init 175 = .ok (.iconst 5, 1) := by decide +kernel
theorem dX10_init_176 : decode cX10_init 176 = .ok (.newarray .int, 2) := by decide +kernel
theorem dX10_init_178 : decode cX10_init 178 = .ok (.putfield 80, 3) := by decide +kernel
theorem dX10_init_181 : decode cX10_init 181 = .ok (.aload_n 0, 1) := by decide +kernel
theorem dX10_init_182 : decode cX10_init 182 = .ok (.bipush 12, 2) := by decide +kernel
theorem dX10_init_184 : decode cX10_init 184 = .ok (.newarray .int, 2) := by decide +kernel
theorem dX10_init_186 : decode cX10_init 186 = .ok (.putfield 83, 3) := by decide +kernel
theorem dX10_init_189 : decode cX10_init 189 = .ok (.aload_n 0, 1) := by decide +kernel
theorem dX10_init_190 : decode cX10_init 190 = .ok (.bipush 12, 2) := by decide +kernel
theorem dX10_init_192 : decode cX10_init 192 = .ok (.newarray .int, 2) := by decide +kernel
theorem dX10_init_194 : decode cX10_init 194 = .ok (.putfield 86, 3) := by decide +kernel
theorem dX10_init_197 : decode cX10_init 197 = .ok (.aload_n 0, 1) := by decide +kernel
theorem dX10_init_198 : decode cX10_init 198 = .ok (.bipush 12, 2) := by decide +kernel
theorem dX10_init_200 : decode cX10_init 200 = .ok (.newarray .int, 2) := by decide +kernel
theorem dX10_init_202 : decode cX10_init 202 = .ok (.putfield 89, 3) := by decide +kernel
theorem dX10_init_205 : decode cX10_init 205 = .ok (.aload_n 0, 1) := by decide +kernel
theorem dX10_init_206 : decode cX10_init 206 = .ok (.bipush 13, 2) := by decide +kernel
theorem dX10_init_208 : decode cX10_init 208 = .ok (.newarray .int, 2) := by decide +kernel
theorem dX10_init_210 : decode cX10_init 210 = .ok (.putfield 92, 3) := by decide +kernel
theorem dX10_init_213 : decode cX10_init 213 = .ok (.aload_n 0, 1) := by decide +kernel
theorem dX10_init_214 : decode cX10_init 214 = .ok (.bipush 6, 2) := by decide +kernel
theorem dX10_init_216 : decode cX10_init 216 = .ok (.newarray .int, 2) := by decide +kernel
theorem dX10_init_218 : decode cX10_init 218 = .ok (.putfield 95, 3) := by decide +kernel
theorem dX10_init_221 : decode cX10_init 221 = .ok (.aload_n 0, 1) := by decide +kernel
theorem dX10_init_222 : decode cX10_init 222 = .ok (.bipush 6, 2) := by decide +kernel
theorem dX10_init_224 : decode cX10_init 224 = .ok (.newarray .int, 2) := by decide +kernel
theorem dX10_init_226 : decode cX10_init 226 = .ok (.putfield 98, 3) := by decide +kernel
theorem dX10_init_229 : decode cX10_init 229 = .ok (.aload_n 0, 1) := by decide +kernel
theorem dX10_init_230 : decode cX10_init 230 = .ok (.bipush 13, 2) := by decide +kernel
theorem dX10_init_232 : decode cX10_init 232 = .ok (.newarray .int, 2) := by decide +kernel
theorem dX10_init_234 : decode cX10_init 234 = .ok (.putfield 101, 3) := by decide +kernel
theorem dX10_init_237 : decode cX10_init 237 = .ok (.iconst 0, 1) := by decide +kernel
theorem dX10_init_238 : decode cX10_init 238 = .ok (.istore_n 1, 1) := by decide +kernel
theorem dX10_init_239 : decode cX10_init 239 = .ok (.iload_n 1, 1) := by decide +kernel
theorem dX10_init_240 : decode cX10_init 240 = .ok (.iconst 4, 1) := by decide +kernel
theorem dX10_init_241 : decode cX10_init 241 = .ok (.if_icmp .ge 16, 3) := by decide +kernel
theorem dX10_init_244 : decode cX10_init 244 = .ok (.aload_n 0, 1) := by decide +kernel
theorem dX10_init_245 : decode cX10_init 245 = .ok (.getfield 7, 3) := by decide +kernel
theorem dX10_init_248 : decode cX10_init 248 = .ok (.iload_n 1, 1) := by decide +kernel
theorem dX10_init_249 : decode cX10_init 249 = .ok (.iconst (-1), 1) := by decide +kernel
theorem dX10_init_250 : decode cX10_init 250 = .ok (.iastore, 1) := by decide +kernel
theorem dX10_init_251 : decode cX10_init 251 = .ok (.iinc 1 1, 3) := by decide +kernel
theorem dX10_init_254 : decode cX10_init 254 = .ok (.goto (-15), 3) := by decide +kernel
theorem dX10_init_257 : decode cX10_init 257 = .ok (.return_, 1) := by decide +kernel
theorem dX10_in_0 : decode cX10_in 0 = .ok (.lload_n 0, 1) := by decide +kernel
theorem dX10_in_1 : decode cX10_in 1 = .ok (.lload_n 2, 1) := by decide +kernel
theorem dX10_in_2 : decode cX10_in 2 = .ok (.lcmp, 1) := by decide +kernel
theorem dX10_in_3 : decode cX10_in 3 = .ok (.ifCond .lt 14, 3) := by decide +kernel
theorem dX10_in_6 : decode cX10_in 6 = .ok (.lload_n 0, 1) := by decide +kernel
theorem dX10_in_7 : decode cX10_in 7 = .ok (.lload 4, 2) := by decide +kernel
theorem dX10_in_9 : decode cX10_in 9 = .ok (.lcmp, 1) := by decide +kernel
theorem dX10_in_10 : decode cX10_in 10 = .ok (.ifCond .gt 7, 3) := by decide +kernel
theorem dX10_in_13 : decode cX10_in 13 = .ok (.iconst 1, 1) := by decide +kernel
theorem dX10_in_14 : decode cX10_in 14 = .ok (.goto 4, 3) := by decide +kernel
theorem dX10_in_17 : decode cX10_in 17 = .ok (.iconst 0, 1) := by decide +kernel
theorem dX10_in_18 : decode cX10_in 18 = .ok (.ireturn, 1) := by decide +kernel
theorem dX10_isSlot_0 : decode cX10_isSlot 0 = .ok (.iload_n 0, 1) := by decide +kernel
theorem dX10_isSlot_1 : decode cX10_isSlot 1 = .ok (.i2l, 1) := by decide +kernel
theorem dX10_isSlot_2 : decode cX10_isSlot 2 = .ok (.lconst 0, 1) := by decide +kernel
theorem dX10_isSlot_3 : decode cX10_isSlot 3 = .ok (.ldc2_w 107, 3) := by decide +kernel
theorem dX10_isSlot_6 : decode cX10_isSlot 6 = .ok (.invokestatic 109, 3) := by decide +kernel
theorem dX10_isSlot_9 : decode cX10_isSlot 9 = .ok (.ireturn, 1) := by decide +kernel
theorem dX10_row_0 : decode cX10_row 0 = .ok (.aload_n 0, 1) := by decide +kernel
theorem dX10_row_1 : decode cX10_row 1 = .ok (.iconst 0, 1) := by decide +kernel
theorem dX10_row_2 : decode cX10_row 2 = .ok (.putfield 104, 3) := by decide +kernel
theorem dX10_row_5 : decode cX10_row 5 = .ok (.iload_n 1, 1) := by decide +kernel
theorem dX10_row_6 : decode cX10_row 6 = .ok (.invokestatic 113, 3) := by decide +kernel
theorem dX10_row_9 : decode cX10_row 9 = .ok (.ifCond .eq 21, 3) := by decide +kernel
theorem dX10_row_12 : decode cX10_row 12 = .ok (.iload_n 2, 1) := by decide +kernel
theorem dX10_row_13 : decode cX10_row 13 = .ok (.i2l, 1) := by decide +kernel
theorem dX10_row_14 : decode cX10_row 14 = .ok (.lconst 0, 1) := by decide +kernel
theorem dX10_row_15 : decode cX10_row 15 = .ok (.ldc2_w 107, 3) := by decide +kernel
theorem dX10_row_18 : decode cX10_row 18 = .ok (.invokestatic 109, 3) := by decide +kernel
theorem dX10_row_21 : decode cX10_row 21 = .ok (.ifCond .eq 9, 3) := by decide +kernel
theorem dX10_row_24 : decode cX10_row 24 = .ok (.iload_n 3, 1) := by decide +kernel
theorem dX10_row_25 : decode cX10_row 25 = .ok (.bipush 60, 2) := by decide +kernel
theorem dX10_row_27 : decode cX10_row 27 = .ok (.if_icmp .le 6, 3) := by decide +kernel
theorem dX10_row_30 : decode cX10_row 30 = .ok (.bipush (-2), 2) := by decide +kernel
theorem dX10_row_32 : decode cX10_row 32 = .ok (.ireturn, 1) := by decide +kernel
theorem dX10_row_33 : decode cX10_row 33 = .ok (.iload_n 3, 1) := by decide +kernel
theorem dX10_row_34 : decode cX10_row 34 = .ok (.ifCond .ge 6, 3) := by decide +kernel
theorem dX10_row_37 : decode cX10_row 37 = .ok (.bipush (-3), 2) := by decide +kernel
theorem dX10_row_39 : decode cX10_row 39 = .ok (.ireturn, 1) := by decide +kernel
theorem dX10_row_40 : decode cX10_row 40 = .ok (.aload_n 0, 1) := by decide +kernel
theorem dX10_row_41 : decode cX10_row 41 = .ok (.getfield 7, 3) := by decide +kernel
theorem dX10_row_44 : decode cX10_row 44 = .ok (.iload_n 1, 1) := by decide +kernel
theorem dX10_row_45 : decode cX10_row 45 = .ok (.iload_n 2, 1) := by decide +kernel
theorem dX10_row_46 : decode cX10_row 46 = .ok (.iastore, 1) := by decide +kernel
theorem dX10_row_47 : decode cX10_row 47 = .ok (.aload_n 0, 1) := by decide +kernel
theorem dX10_row_48 : decode cX10_row 48 = .ok (.getfield 13, 3) := by decide +kernel
theorem dX10_row_51 : decode cX10_row 51 = .ok (.iload_n 1, 1) := by decide +kernel
theorem dX10_row_52 : decode cX10_row 52 = .ok (.iload_n 3, 1) := by decide +kernel
theorem dX10_row_53 : decode cX10_row 53 = .ok (.iastore, 1) := by decide +kernel
theorem dX10_row_54 : decode cX10_row 54 = .ok (.iconst 0, 1) := by decide +kernel
theorem dX10_row_55 : decode cX10_row 55 = .ok (.istore 4, 2) := by decide +kernel
theorem dX10_row_57 : decode cX10_row 57 = .ok (.iload 4, 2) := by decide +kernel
theorem dX10_row_59 : decode cX10_row 59 = .ok (.iload_n 3, 1) := by decide +kernel
theorem dX10_row_60 : decode cX10_row 60 = .ok (.if_icmp .ge 22, 3) := by decide +kernel
theorem dX10_row_63 : decode cX10_row 63 = .ok (.aload_n 0, 1) := by decide +kernel
theorem dX10_row_64 : decode cX10_row 64 = .ok (.getfield 16, 3) := by decide +kernel
theorem dX10_row_67 : decode cX10_row 67 = .ok (.bipush 60, 2) := by decide +kernel
theorem dX10_row_69 : decode cX10_row 69 = .ok (.iload_n 1, 1) := by decide +kernel
theorem dX10_row_70 : decode cX10_row 70 = .ok (.imul, 1) := by decide +kernel
theorem dX10_row_71 : decode cX10_row 71 = .ok (.iload 4, 2) := by decide +kernel
theorem dX10_row_73 : decode cX10_row 73 = .ok (.iadd, 1) := by decide +kernel
theorem dX10_row_74 : decode cX10_row 74 = .ok (.lconst 0, 1) := by decide +kernel
theorem dX10_row_75 : decode cX10_row 75 = .ok (.lastore, 1) := by decide +kernel
theorem dX10_row_76 : decode cX10_row 76 = .ok (.iinc 4 1, 3) := by decide +kernel
theorem dX10_row_79 : decode cX10_row 79 = .ok (.goto (-22), 3) := by decide +kernel
theorem dX10_row_82 : decode cX10_row 82 = .ok (.iconst 0, 1) := by decide +kernel
theorem dX10_row_83 : decode cX10_row 83 = .ok (.ireturn, 1) := by decide +kernel
theorem dX10_write_0 : decode cX10_write 0 = .ok (.aload_n 0, 1) := by decide +kernel
theorem dX10_write_1 : decode cX10_write 1 = .ok (.iconst 0, 1) := by decide +kernel
theorem dX10_write_2 : decode cX10_write 2 = .ok (.putfield 104, 3) := by decide +kernel
theorem dX10_write_5 : decode cX10_write 5 = .ok (.iload_n 1, 1) := by decide +kernel
theorem dX10_write_6 : decode cX10_write 6 = .ok (.invokestatic 113, 3) := by decide +kernel
theorem dX10_write_9 : decode cX10_write 9 = .ok (.ifCond .ne 6, 3) := by decide +kernel
theorem dX10_write_12 : decode cX10_write 12 = .ok (.bipush (-2), 2) := by decide +kernel
theorem dX10_write_14 : decode cX10_write 14 = .ok (.ireturn, 1) := by decide +kernel
theorem dX10_write_15 : decode cX10_write 15 = .ok (.aload_n 0, 1) := by decide +kernel
theorem dX10_write_16 : decode cX10_write 16 = .ok (.getfield 7, 3) := by decide +kernel
theorem dX10_write_19 : decode cX10_write 19 = .ok (.iload_n 1, 1) := by decide +kernel
theorem dX10_write_20 : decode cX10_write 20 = .ok (.iaload, 1) := by decide +kernel
theorem dX10_write_21 : decode cX10_write 21 = .ok (.iconst (-1), 1) := by decide +kernel
theorem dX10_write_22 : decode cX10_write 22 = .ok (.if_icmp .ne 6, 3) := by decide +kernel
theorem dX10_write_25 : decode cX10_write 25 = .ok (.bipush (-6), 2) := by decide +kernel
theorem dX10_write_27 : decode cX10_write 27 = .ok (.ireturn, 1) := by decide +kernel
theorem dX10_write_28 : decode cX10_write 28 = .ok (.iload_n 2, 1) := by decide +kernel
theorem dX10_write_29 : decode cX10_write 29 = .ok (.i2l, 1) := by decide +kernel
theorem dX10_write_30 : decode cX10_write 30 = .ok (.lconst 0, 1) := by decide +kernel
theorem dX10_write_31 : decode cX10_write 31 = .ok (.aload_n 0, 1) := by decide +kernel
theorem dX10_write_32 : decode cX10_write 32 = .ok (.getfield 13, 3) := by decide +kernel
theorem dX10_write_35 : decode cX10_write 35 = .ok (.iload_n 1, 1) := by decide +kernel
theorem dX10_write_36 : decode cX10_write 36 = .ok (.iaload, 1) := by decide +kernel
theorem dX10_write_37 : decode cX10_write 37 = .ok (.iconst 1, 1) := by decide +kernel
theorem dX10_write_38 : decode cX10_write 38 = .ok (.isub, 1) := by decide +kernel
theorem dX10_write_39 : decode cX10_write 39 = .ok (.i2l, 1) := by decide +kernel
theorem dX10_write_40 : decode cX10_write 40 = .ok (.invokestatic 109, 3) := by decide +kernel
theorem dX10_write_43 : decode cX10_write 43 = .ok (.ifCond .ne 6, 3) := by decide +kernel
theorem dX10_write_46 : decode cX10_write 46 = .ok (.bipush (-7), 2) := by decide +kernel
theorem dX10_write_48 : decode cX10_write 48 = .ok (.ireturn, 1) := by decide +kernel
theorem dX10_write_49 : decode cX10_write 49 = .ok (.aload_n 0, 1) := by decide +kernel
theorem dX10_write_50 : decode cX10_write 50 = .ok (.getfield 16, 3) := by decide +kernel
theorem dX10_write_53 : decode cX10_write 53 = .ok (.bipush 60, 2) := by decide +kernel
theorem dX10_write_55 : decode cX10_write 55 = .ok (.iload_n 1, 1) := by decide +kernel
theorem dX10_write_56 : decode cX10_write 56 = .ok (.imul, 1) := by decide +kernel
theorem dX10_write_57 : decode cX10_write 57 = .ok (.iload_n 2, 1) := by decide +kernel
theorem dX10_write_58 : decode cX10_write 58 = .ok (.iadd, 1) := by decide +kernel
theorem dX10_write_59 : decode cX10_write 59 = .ok (.lload_n 3, 1) := by decide +kernel
theorem dX10_write_60 : decode cX10_write 60 = .ok (.aload_n 0, 1) := by decide +kernel
theorem dX10_write_61 : decode cX10_write 61 = .ok (.getfield 7, 3) := by decide +kernel
theorem dX10_write_64 : decode cX10_write 64 = .ok (.iload_n 1, 1) := by decide +kernel
theorem dX10_write_65 : decode cX10_write 65 = .ok (.iaload, 1) := by decide +kernel
theorem dX10_write_66 : decode cX10_write 66 = .ok (.invokestatic 117, 3) := by decide +kernel
theorem dX10_write_69 : decode cX10_write 69 = .ok (.lastore, 1) := by decide +kernel
theorem dX10_write_70 : decode cX10_write 70 = .ok (.iconst 0, 1) := by decide +kernel
theorem dX10_write_71 : decode cX10_write 71 = .ok (.ireturn, 1) := by decide +kernel
theorem dX10_paste_0 : decode cX10_paste 0 = .ok (.aload_n 0, 1) := by decide +kernel
theorem dX10_paste_1 : decode cX10_paste 1 = .ok (.iconst 0, 1) := by decide +kernel
theorem dX10_paste_2 : decode cX10_paste 2 = .ok (.putfield 104, 3) := by decide +kernel
theorem dX10_paste_5 : decode cX10_paste 5 = .ok (.iload_n 1, 1) := by decide +kernel
theorem dX10_paste_6 : decode cX10_paste 6 = .ok (.invokestatic 113, 3) := by decide +kernel
theorem dX10_paste_9 : decode cX10_paste 9 = .ok (.ifCond .eq 10, 3) := by decide +kernel
theorem dX10_paste_12 : decode cX10_paste 12 = .ok (.iload_n 3, 1) := by decide +kernel
theorem dX10_paste_13 : decode cX10_paste 13 = .ok (.invokestatic 113, 3) := by decide +kernel
theorem dX10_paste_16 : decode cX10_paste 16 = .ok (.ifCond .ne 6, 3) := by decide +kernel
theorem dX10_paste_19 : decode cX10_paste 19 = .ok (.bipush (-2), 2) := by decide +kernel
theorem dX10_paste_21 : decode cX10_paste 21 = .ok (.ireturn, 1) := by decide +kernel
theorem dX10_paste_22 : decode cX10_paste 22 = .ok (.aload_n 0, 1) := by decide +kernel
theorem dX10_paste_23 : decode cX10_paste 23 = .ok (.getfield 7, 3) := by decide +kernel
theorem dX10_paste_26 : decode cX10_paste 26 = .ok (.iload_n 1, 1) := by decide +kernel
theorem dX10_paste_27 : decode cX10_paste 27 = .ok (.iaload, 1) := by decide +kernel
theorem dX10_paste_28 : decode cX10_paste 28 = .ok (.iconst (-1), 1) := by decide +kernel
theorem dX10_paste_29 : decode cX10_paste 29 = .ok (.if_icmp .eq 13, 3) := by decide +kernel
theorem dX10_paste_32 : decode cX10_paste 32 = .ok (.aload_n 0, 1) := by decide +kernel
theorem dX10_paste_33 : decode cX10_paste 33 = .ok (.getfield 7, 3) := by decide +kernel
theorem dX10_paste_36 : decode cX10_paste 36 = .ok (.iload_n 3, 1) := by decide +kernel
theorem dX10_paste_37 : decode cX10_paste 37 = .ok (.iaload, 1) := by decide +kernel
theorem dX10_paste_38 : decode cX10_paste 38 = .ok (.iconst (-1), 1) := by decide +kernel
theorem dX10_paste_39 : decode cX10_paste 39 = .ok (.if_icmp .ne 6, 3) := by decide +kernel
theorem dX10_paste_42 : decode cX10_paste 42 = .ok (.bipush (-6), 2) := by decide +kernel
theorem dX10_paste_44 : decode cX10_paste 44 = .ok (.ireturn, 1) := by decide +kernel
theorem dX10_paste_45 : decode cX10_paste 45 = .ok (.aload_n 0, 1) := by decide +kernel
theorem dX10_paste_46 : decode cX10_paste 46 = .ok (.getfield 7, 3) := by decide +kernel
theorem dX10_paste_49 : decode cX10_paste 49 = .ok (.iload_n 1, 1) := by decide +kernel
theorem dX10_paste_50 : decode cX10_paste 50 = .ok (.iaload, 1) := by decide +kernel
theorem dX10_paste_51 : decode cX10_paste 51 = .ok (.aload_n 0, 1) := by decide +kernel
theorem dX10_paste_52 : decode cX10_paste 52 = .ok (.getfield 7, 3) := by decide +kernel
theorem dX10_paste_55 : decode cX10_paste 55 = .ok (.iload_n 3, 1) := by decide +kernel
theorem dX10_paste_56 : decode cX10_paste 56 = .ok (.iaload, 1) := by decide +kernel
theorem dX10_paste_57 : decode cX10_paste 57 = .ok (.if_icmp .eq 6, 3) := by decide +kernel
theorem dX10_paste_60 : decode cX10_paste 60 = .ok (.bipush (-8), 2) := by decide +kernel
theorem dX10_paste_62 : decode cX10_paste 62 = .ok (.ireturn, 1) := by decide +kernel
theorem dX10_paste_63 : decode cX10_paste 63 = .ok (.iload_n 2, 1) := by decide +kernel
theorem dX10_paste_64 : decode cX10_paste 64 = .ok (.ifCond .lt 48, 3) := by decide +kernel
theorem dX10_paste_67 : decode cX10_paste 67 = .ok (.iload 4, 2) := by decide +kernel
theorem dX10_paste_69 : decode cX10_paste 69 = .ok (.ifCond .lt 43, 3) := by decide +kernel
theorem dX10_paste_72 : decode cX10_paste 72 = .ok (.iload 5, 2) := by decide +kernel
theorem dX10_paste_74 : decode cX10_paste 74 = .ok (.ifCond .lt 38, 3) := by decide +kernel
theorem dX10_paste_77 : decode cX10_paste 77 = .ok (.iload_n 2, 1) := by decide +kernel
theorem dX10_paste_78 : decode cX10_paste 78 = .ok (.i2l, 1) := by decide +kernel
theorem dX10_paste_79 : decode cX10_paste 79 = .ok (.iload 5, 2) := by decide +kernel
theorem dX10_paste_81 : decode cX10_paste 81 = .ok (.i2l, 1) := by decide +kernel
theorem dX10_paste_82 : decode cX10_paste 82 = .ok (.ladd, 1) := by decide +kernel
theorem dX10_paste_83 : decode cX10_paste 83 = .ok (.aload_n 0, 1) := by decide +kernel
theorem dX10_paste_84 : decode cX10_paste 84 = .ok (.getfield 13, 3) := by decide +kernel
theorem dX10_paste_87 : decode cX10_paste 87 = .ok (.iload_n 1, 1) := by decide +kernel
theorem dX10_paste_88 : decode cX10_paste 88 = .ok (.iaload, 1) := by decide +kernel
theorem dX10_paste_89 : decode cX10_paste 89 = .ok (.i2l, 1) := by decide +kernel
theorem dX10_paste_90 : decode cX10_paste 90 = .ok (.lcmp, 1) := by decide +kernel
theorem dX10_paste_91 : decode cX10_paste 91 = .ok (.ifCond .gt 21, 3) := by decide +kernel
theorem dX10_paste_94 : decode cX10_paste 94 = .ok (.iload 4, 2) := by decide +kernel
theorem dX10_paste_96 : decode cX10_paste 96 = .ok (.i2l, 1) := by decide +kernel
theorem dX10_paste_97 : decode cX10_paste 97 = .ok (.iload 5, 2) := by decide +kernel
theorem dX10_paste_99 : decode cX10_paste 99 = .ok (.i2l, 1) := by decide +kernel
theorem dX10_paste_100 : decode cX10_paste 100 = .ok (.ladd, 1) := by decide +kernel
theorem dX10_paste_101 : decode cX10_paste 101 = .ok (.aload_n 0, 1) := by decide +kernel
theorem dX10_paste_102 : decode cX10_paste 102 = .ok (.getfield 13, 3) := by decide +kernel
theorem dX10_paste_105 : decode cX10_paste 105 = .ok (.iload_n 3, 1) := by decide +kernel
theorem dX10_paste_106 : decode cX10_paste 106 = .ok (.iaload, 1) := by decide +kernel
theorem dX10_paste_107 : decode cX10_paste 107 = .ok (.i2l, 1) := by decide +kernel
theorem dX10_paste_108 : decode cX10_paste 108 = .ok (.lcmp, 1) := by decide +kernel
theorem dX10_paste_109 : decode cX10_paste 109 = .ok (.ifCond .le 6, 3) := by decide +kernel
theorem dX10_paste_112 : decode cX10_paste 112 = .ok (.bipush (-7), 2) := by decide +kernel
theorem dX10_paste_114 : decode cX10_paste 114 = .ok (.ireturn, 1) := by decide +kernel
theorem dX10_paste_115 : decode cX10_paste 115 = .ok (.iconst 0, 1) := by decide +kernel
theorem dX10_paste_116 : decode cX10_paste 116 = .ok (.istore 6, 2) := by decide +kernel
theorem dX10_paste_118 : decode cX10_paste 118 = .ok (.iload 6, 2) := by decide +kernel
theorem dX10_paste_120 : decode cX10_paste 120 = .ok (.iload 5, 2) := by decide +kernel
theorem dX10_paste_122 : decode cX10_paste 122 = .ok (.if_icmp .ge 30, 3) := by decide +kernel
theorem dX10_paste_125 : decode cX10_paste 125 = .ok (.aload_n 0, 1) := by decide +kernel
theorem dX10_paste_126 : decode cX10_paste 126 = .ok (.getfield 20, 3) := by decide +kernel
theorem dX10_paste_129 : decode cX10_paste 129 = .ok (.iload 6, 2) := by decide +kernel
theorem dX10_paste_131 : decode cX10_paste 131 = .ok (.aload_n 0, 1) := by decide +kernel
theorem dX10_paste_132 : decode cX10_paste 132 = .ok (.getfield 16, 3) := by decide +kernel
theorem dX10_paste_135 : decode cX10_paste 135 = .ok (.bipush 60, 2) := by decide +kernel
theorem dX10_paste_137 : decode cX10_paste 137 = .ok (.iload_n 1, 1) := by decide +kernel
theorem dX10_paste_138 : decode cX10_paste 138 = .ok (.imul, 1) := by decide +kernel
theorem dX10_paste_139 : decode cX10_paste 139 = .ok (.iload_n 2, 1) := by decide +kernel
theorem dX10_paste_140 : decode cX10_paste 140 = .ok (.iadd, 1) := by decide +kernel
theorem dX10_paste_141 : decode cX10_paste 141 = .ok (.iload 6, 2) := by decide +kernel
theorem dX10_paste_143 : decode cX10_paste 143 = .ok (.iadd, 1) := by decide +kernel
theorem dX10_paste_144 : decode cX10_paste 144 = .ok (.laload, 1) := by decide +kernel
theorem dX10_paste_145 : decode cX10_paste 145 = .ok (.lastore, 1) := by decide +kernel
theorem dX10_paste_146 : decode cX10_paste 146 = .ok (.iinc 6 1, 3) := by decide +kernel
theorem dX10_paste_149 : decode cX10_paste 149 = .ok (.goto (-31), 3) := by decide +kernel
theorem dX10_paste_152 : decode cX10_paste 152 = .ok (.iconst 0, 1) := by decide +kernel
theorem dX10_paste_153 : decode cX10_paste 153 = .ok (.istore 6, 2) := by decide +kernel
theorem dX10_paste_155 : decode cX10_paste 155 = .ok (.iload 6, 2) := by decide +kernel
theorem dX10_paste_157 : decode cX10_paste 157 = .ok (.iload 5, 2) := by decide +kernel
theorem dX10_paste_159 : decode cX10_paste 159 = .ok (.if_icmp .ge 31, 3) := by decide +kernel
theorem dX10_paste_162 : decode cX10_paste 162 = .ok (.aload_n 0, 1) := by decide +kernel
theorem dX10_paste_163 : decode cX10_paste 163 = .ok (.getfield 16, 3) := by decide +kernel
theorem dX10_paste_166 : decode cX10_paste 166 = .ok (.bipush 60, 2) := by decide +kernel
theorem dX10_paste_168 : decode cX10_paste 168 = .ok (.iload_n 3, 1) := by decide +kernel
theorem dX10_paste_169 : decode cX10_paste 169 = .ok (.imul, 1) := by decide +kernel
theorem dX10_paste_170 : decode cX10_paste 170 = .ok (.iload 4, 2) := by decide +kernel
theorem dX10_paste_172 : decode cX10_paste 172 = .ok (.iadd, 1) := by decide +kernel
theorem dX10_paste_173 : decode cX10_paste 173 = .ok (.iload 6, 2) := by decide +kernel
theorem dX10_paste_175 : decode cX10_paste 175 = .ok (.iadd, 1) := by decide +kernel
theorem dX10_paste_176 : decode cX10_paste 176 = .ok (.aload_n 0, 1) := by decide +kernel
theorem dX10_paste_177 : decode cX10_paste 177 = .ok (.getfield 20, 3) := by decide +kernel
theorem dX10_paste_180 : decode cX10_paste 180 = .ok (.iload 6, 2) := by decide +kernel
theorem dX10_paste_182 : decode cX10_paste 182 = .ok (.laload, 1) := by decide +kernel
theorem dX10_paste_183 : decode cX10_paste 183 = .ok (.lastore, 1) := by decide +kernel
theorem dX10_paste_184 : decode cX10_paste 184 = .ok (.iinc 6 1, 3) := by decide +kernel
theorem dX10_paste_187 : decode cX10_paste 187 = .ok (.goto (-32), 3) := by decide +kernel
theorem dX10_paste_190 : decode cX10_paste 190 = .ok (.iconst 0, 1) := by decide +kernel
theorem dX10_paste_191 : decode cX10_paste 191 = .ok (.ireturn, 1) := by decide +kernel
theorem dX10_feed_0 : decode cX10_feed 0 = .ok (.aload_n 0, 1) := by decide +kernel
theorem dX10_feed_1 : decode cX10_feed 1 = .ok (.iconst 0, 1) := by decide +kernel
theorem dX10_feed_2 : decode cX10_feed 2 = .ok (.putfield 104, 3) := by decide +kernel
theorem dX10_feed_5 : decode cX10_feed 5 = .ok (.aload_n 0, 1) := by decide +kernel
theorem dX10_feed_6 : decode cX10_feed 6 = .ok (.getfield 121, 3) := by decide +kernel
theorem dX10_feed_9 : decode cX10_feed 9 = .ok (.bipush 20, 2) := by decide +kernel
theorem dX10_feed_11 : decode cX10_feed 11 = .ok (.iadd, 1) := by decide +kernel
theorem dX10_feed_12 : decode cX10_feed 12 = .ok (.sipush 1600, 3) := by decide +kernel
theorem dX10_feed_15 : decode cX10_feed 15 = .ok (.if_icmp .le 5, 3) := by decide +kernel
theorem dX10_feed_18 : decode cX10_feed 18 = .ok (.iconst (-1), 1) := by decide +kernel
theorem dX10_feed_19 : decode cX10_feed 19 = .ok (.ireturn, 1) := by decide +kernel
theorem dX10_feed_20 : decode cX10_feed 20 = .ok (.aload_n 0, 1) := by decide +kernel
theorem dX10_feed_21 : decode cX10_feed 21 = .ok (.iload_n 1, 1) := by decide +kernel
theorem dX10_feed_22 : decode cX10_feed 22 = .ok (.invokevirtual 124, 3) := by decide +kernel
theorem dX10_feed_25 : decode cX10_feed 25 = .ok (.aload_n 0, 1) := by decide +kernel
theorem dX10_feed_26 : decode cX10_feed 26 = .ok (.iload_n 2, 1) := by decide +kernel
theorem dX10_feed_27 : decode cX10_feed 27 = .ok (.invokevirtual 124, 3) := by decide +kernel
theorem dX10_feed_30 : decode cX10_feed 30 = .ok (.aload_n 0, 1) := by decide +kernel
theorem dX10_feed_31 : decode cX10_feed 31 = .ok (.iload_n 3, 1) := by decide +kernel
theorem dX10_feed_32 : decode cX10_feed 32 = .ok (.invokevirtual 124, 3) := by decide +kernel
theorem dX10_feed_35 : decode cX10_feed 35 = .ok (.aload_n 0, 1) := by decide +kernel
theorem dX10_feed_36 : decode cX10_feed 36 = .ok (.iload 4, 2) := by decide +kernel
theorem dX10_feed_38 : decode cX10_feed 38 = .ok (.invokevirtual 124, 3) := by decide +kernel
theorem dX10_feed_41 : decode cX10_feed 41 = .ok (.aload_n 0, 1) := by decide +kernel
theorem dX10_feed_42 : decode cX10_feed 42 = .ok (.iload 5, 2) := by decide +kernel
theorem dX10_feed_44 : decode cX10_feed 44 = .ok (.invokevirtual 124, 3) := by decide +kernel
theorem dX10_feed_47 : decode cX10_feed 47 = .ok (.aload_n 0, 1) := by decide +kernel
theorem dX10_feed_48 : decode cX10_feed 48 = .ok (.getfield 121, 3) := by decide +kernel
theorem dX10_feed_51 : decode cX10_feed 51 = .ok (.ireturn, 1) := by decide +kernel
theorem dX10_four_0 : decode cX10_four 0 = .ok (.bipush 24, 2) := by decide +kernel
theorem dX10_four_2 : decode cX10_four 2 = .ok (.istore_n 2, 1) := by decide +kernel
theorem dX10_four_3 : decode cX10_four 3 = .ok (.iload_n 2, 1) := by decide +kernel
theorem dX10_four_4 : decode cX10_four 4 = .ok (.ifCond .lt 32, 3) := by decide +kernel
theorem dX10_four_7 : decode cX10_four 7 = .ok (.aload_n 0, 1) := by decide +kernel
theorem dX10_four_8 : decode cX10_four 8 = .ok (.getfield 23, 3) := by decide +kernel
theorem dX10_four_11 : decode cX10_four 11 = .ok (.aload_n 0, 1) := by decide +kernel
theorem dX10_four_12 : decode cX10_four 12 = .ok (.getfield 121, 3) := by decide +kernel
theorem dX10_four_15 : decode cX10_four 15 = .ok (.iload_n 1, 1) := by decide +kernel
theorem dX10_four_16 : decode cX10_four 16 = .ok (.iload_n 2, 1) := by decide +kernel
theorem dX10_four_17 : decode cX10_four 17 = .ok (.ishr, 1) := by decide +kernel
theorem dX10_four_18 : decode cX10_four 18 = .ok (.i2b, 1) := by decide +kernel
theorem dX10_four_19 : decode cX10_four 19 = .ok (.bastore, 1) := by decide +kernel
theorem dX10_four_20 : decode cX10_four 20 = .ok (.aload_n 0, 1) := by decide +kernel
theorem dX10_four_21 : decode cX10_four 21 = .ok (.dup, 1) := by decide +kernel
theorem dX10_four_22 : decode cX10_four 22 = .ok (.getfield 121, 3) := by decide +kernel
theorem dX10_four_25 : decode cX10_four 25 = .ok (.iconst 1, 1) := by decide +kernel
theorem dX10_four_26 : decode cX10_four 26 = .ok (.iadd, 1) := by decide +kernel
theorem dX10_four_27 : decode cX10_four 27 = .ok (.putfield 121, 3) := by decide +kernel
theorem dX10_four_30 : decode cX10_four 30 = .ok (.iinc 2 (-8), 3) := by decide +kernel
theorem dX10_four_33 : decode cX10_four 33 = .ok (.goto (-30), 3) := by decide +kernel
theorem dX10_four_36 : decode cX10_four 36 = .ok (.return_, 1) := by decide +kernel
theorem dX10_end_0 : decode cX10_end 0 = .ok (.aload_n 0, 1) := by decide +kernel
theorem dX10_end_1 : decode cX10_end 1 = .ok (.iconst 0, 1) := by decide +kernel
theorem dX10_end_2 : decode cX10_end 2 = .ok (.putfield 104, 3) := by decide +kernel
theorem dX10_end_5 : decode cX10_end 5 = .ok (.iload_n 1, 1) := by decide +kernel
theorem dX10_end_6 : decode cX10_end 6 = .ok (.i2l, 1) := by decide +kernel
theorem dX10_end_7 : decode cX10_end 7 = .ok (.lconst 0, 1) := by decide +kernel
theorem dX10_end_8 : decode cX10_end 8 = .ok (.aload_n 0, 1) := by decide +kernel
theorem dX10_end_9 : decode cX10_end 9 = .ok (.getfield 121, 3) := by decide +kernel
theorem dX10_end_12 : decode cX10_end 12 = .ok (.i2l, 1) := by decide +kernel
theorem dX10_end_13 : decode cX10_end 13 = .ok (.invokestatic 109, 3) := by decide +kernel
theorem dX10_end_16 : decode cX10_end 16 = .ok (.ifCond .ne 5, 3) := by decide +kernel
theorem dX10_end_19 : decode cX10_end 19 = .ok (.iconst (-1), 1) := by decide +kernel
theorem dX10_end_20 : decode cX10_end 20 = .ok (.ireturn, 1) := by decide +kernel
theorem dX10_end_21 : decode cX10_end 21 = .ok (.aload_n 0, 1) := by decide +kernel
theorem dX10_end_22 : decode cX10_end 22 = .ok (.iload_n 1, 1) := by decide +kernel
theorem dX10_end_23 : decode cX10_end 23 = .ok (.putfield 121, 3) := by decide +kernel
theorem dX10_end_26 : decode cX10_end 26 = .ok (.iload_n 1, 1) := by decide +kernel
theorem dX10_end_27 : decode cX10_end 27 = .ok (.ireturn, 1) := by decide +kernel
theorem dX10_isByte_0 : decode cX10_isByte 0 = .ok (.iload_n 1, 1) := by decide +kernel
theorem dX10_isByte_1 : decode cX10_isByte 1 = .ok (.aload_n 0, 1) := by decide +kernel
theorem dX10_isByte_2 : decode cX10_isByte 2 = .ok (.getfield 121, 3) := by decide +kernel
theorem dX10_isByte_5 : decode cX10_isByte 5 = .ok (.if_icmp .ge 27, 3) := by decide +kernel
theorem dX10_isByte_8 : decode cX10_isByte 8 = .ok (.aload_n 0, 1) := by decide +kernel
theorem dX10_isByte_9 : decode cX10_isByte 9 = .ok (.getfield 23, 3) := by decide +kernel
theorem dX10_isByte_12 : decode cX10_isByte 12 = .ok (.iload_n 1, 1) := by decide +kernel
theorem dX10_isByte_13 : decode cX10_isByte 13 = .ok (.baload, 1) := by decide +kernel
theorem dX10_isByte_14 : decode cX10_isByte 14 = .ok (.iload_n 2, 1) := by decide +kernel
theorem dX10_isByte_15 : decode cX10_isByte 15 = .ok (.if_icmp .lt 17, 3) := by decide +kernel
theorem dX10_isByte_18 : decode cX10_isByte 18 = .ok (.aload_n 0, 1) := by decide +kernel
theorem dX10_isByte_19 : decode cX10_isByte 19 = .ok (.getfield 23, 3) := by decide +kernel
theorem dX10_isByte_22 : decode cX10_isByte 22 = .ok (.iload_n 1, 1) := by decide +kernel
theorem dX10_isByte_23 : decode cX10_isByte 23 = .ok (.baload, 1) := by decide +kernel
theorem dX10_isByte_24 : decode cX10_isByte 24 = .ok (.iload_n 3, 1) := by decide +kernel
theorem dX10_isByte_25 : decode cX10_isByte 25 = .ok (.if_icmp .gt 7, 3) := by decide +kernel
theorem dX10_isByte_28 : decode cX10_isByte 28 = .ok (.iconst 1, 1) := by decide +kernel
theorem dX10_isByte_29 : decode cX10_isByte 29 = .ok (.goto 4, 3) := by decide +kernel
theorem dX10_isByte_32 : decode cX10_isByte 32 = .ok (.iconst 0, 1) := by decide +kernel
theorem dX10_isByte_33 : decode cX10_isByte 33 = .ok (.ireturn, 1) := by decide +kernel
theorem dX10_next_0 : decode cX10_next 0 = .ok (.aload_n 0, 1) := by decide +kernel
theorem dX10_next_1 : decode cX10_next 1 = .ok (.aload_n 0, 1) := by decide +kernel
theorem dX10_next_2 : decode cX10_next 2 = .ok (.getfield 128, 3) := by decide +kernel
theorem dX10_next_5 : decode cX10_next 5 = .ok (.bipush 32, 2) := by decide +kernel
theorem dX10_next_7 : decode cX10_next 7 = .ok (.bipush 32, 2) := by decide +kernel
theorem dX10_next_9 : decode cX10_next 9 = .ok (.invokevirtual 131, 3) := by decide +kernel
theorem dX10_next_12 : decode cX10_next 12 = .ok (.ifCond .ne 18, 3) := by decide +kernel
theorem dX10_next_15 : decode cX10_next 15 = .ok (.aload_n 0, 1) := by decide +kernel
theorem dX10_next_16 : decode cX10_next 16 = .ok (.aload_n 0, 1) := by decide +kernel
theorem dX10_next_17 : decode cX10_next 17 = .ok (.getfield 128, 3) := by decide +kernel
theorem dX10_next_20 : decode cX10_next 20 = .ok (.bipush 10, 2) := by decide +kernel
theorem dX10_next_22 : decode cX10_next 22 = .ok (.bipush 10, 2) := by decide +kernel
theorem dX10_next_24 : decode cX10_next 24 = .ok (.invokevirtual 131, 3) := by decide +kernel
theorem dX10_next_27 : decode cX10_next 27 = .ok (.ifCond .eq 16, 3) := by decide +kernel
theorem dX10_next_30 : decode cX10_next 30 = .ok (.aload_n 0, 1) := by decide +kernel
theorem dX10_next_31 : decode cX10_next 31 = .ok (.dup, 1) := by decide +kernel
theorem dX10_next_32 : decode cX10_next 32 = .ok (.getfield 128, 3) := by decide +kernel
theorem dX10_next_35 : decode cX10_next 35 = .ok (.iconst 1, 1) := by decide +kernel
theorem dX10_next_36 : decode cX10_next 36 = .ok (.iadd, 1) := by decide +kernel
theorem dX10_next_37 : decode cX10_next 37 = .ok (.putfield 128, 3) := by decide +kernel
theorem dX10_next_40 : decode cX10_next 40 = .ok (.goto (-40), 3) := by decide +kernel
theorem dX10_next_43 : decode cX10_next 43 = .ok (.aload_n 0, 1) := by decide +kernel
theorem dX10_next_44 : decode cX10_next 44 = .ok (.aload_n 0, 1) := by decide +kernel
theorem dX10_next_45 : decode cX10_next 45 = .ok (.getfield 128, 3) := by decide +kernel
theorem dX10_next_48 : decode cX10_next 48 = .ok (.putfield 135, 3) := by decide +kernel
theorem dX10_next_51 : decode cX10_next 51 = .ok (.aload_n 0, 1) := by decide +kernel
theorem dX10_next_52 : decode cX10_next 52 = .ok (.iconst 0, 1) := by decide +kernel
theorem dX10_next_53 : decode cX10_next 53 = .ok (.putfield 138, 3) := by decide +kernel
theorem dX10_next_56 : decode cX10_next 56 = .ok (.aload_n 0, 1) := by decide +kernel
theorem dX10_next_57 : decode cX10_next 57 = .ok (.lconst 0, 1) := by decide +kernel
theorem dX10_next_58 : decode cX10_next 58 = .ok (.putfield 141, 3) := by decide +kernel
theorem dX10_next_61 : decode cX10_next 61 = .ok (.aload_n 0, 1) := by decide +kernel
theorem dX10_next_62 : decode cX10_next 62 = .ok (.getfield 128, 3) := by decide +kernel
theorem dX10_next_65 : decode cX10_next 65 = .ok (.aload_n 0, 1) := by decide +kernel
theorem dX10_next_66 : decode cX10_next 66 = .ok (.getfield 121, 3) := by decide +kernel
theorem dX10_next_69 : decode cX10_next 69 = .ok (.if_icmp .ne 11, 3) := by decide +kernel
theorem dX10_next_72 : decode cX10_next 72 = .ok (.aload_n 0, 1) := by decide +kernel
theorem dX10_next_73 : decode cX10_next 73 = .ok (.iconst 0, 1) := by decide +kernel
theorem dX10_next_74 : decode cX10_next 74 = .ok (.putfield 145, 3) := by decide +kernel
theorem dX10_next_77 : decode cX10_next 77 = .ok (.goto 230, 3) := by decide +kernel
theorem dX10_next_80 : decode cX10_next 80 = .ok (.aload_n 0, 1) := by decide +kernel
theorem dX10_next_81 : decode cX10_next 81 = .ok (.aload_n 0, 1) := by decide +kernel
theorem dX10_next_82 : decode cX10_next 82 = .ok (.getfield 128, 3) := by decide +kernel
theorem dX10_next_85 : decode cX10_next 85 = .ok (.bipush 97, 2) := by decide +kernel
theorem dX10_next_87 : decode cX10_next 87 = .ok (.bipush 122, 2) := by decide +kernel
theorem dX10_next_89 : decode cX10_next 89 = .ok (.invokevirtual 131, 3) := by decide +kernel
theorem dX10_next_92 : decode cX10_next 92 = .ok (.ifCond .eq 96, 3) := by decide +kernel
theorem dX10_next_95 : decode cX10_next 95 = .ok (.aload_n 0, 1) := by decide +kernel
theorem dX10_next_96 : decode cX10_next 96 = .ok (.iconst 1, 1) := by decide +kernel
theorem dX10_next_97 : decode cX10_next 97 = .ok (.putfield 145, 3) := by decide +kernel
theorem dX10_next_100 : decode cX10_next 100 = .ok (.iconst 0, 1) := by decide +kernel
theorem dX10_next_101 : decode cX10_next 101 = .ok (.istore_n 1, 1) := by decide +kernel
theorem dX10_next_102 : decode cX10_next 102 = .ok (.aload_n 0, 1) := by decide +kernel
theorem dX10_next_103 : decode cX10_next 103 = .ok (.aload_n 0, 1) := by decide +kernel
theorem dX10_next_104 : decode cX10_next 104 = .ok (.getfield 128, 3) := by decide +kernel
theorem dX10_next_107 : decode cX10_next 107 = .ok (.bipush 97, 2) := by decide +kernel
theorem dX10_next_109 : decode cX10_next 109 = .ok (.bipush 122, 2) := by decide +kernel
theorem dX10_next_111 : decode cX10_next 111 = .ok (.invokevirtual 131, 3) := by decide +kernel
theorem dX10_next_114 : decode cX10_next 114 = .ok (.ifCond .eq 71, 3) := by decide +kernel
theorem dX10_next_117 : decode cX10_next 117 = .ok (.aload_n 0, 1) := by decide +kernel
theorem dX10_next_118 : decode cX10_next 118 = .ok (.iload_n 1, 1) := by decide +kernel
theorem dX10_next_119 : decode cX10_next 119 = .ok (.bipush 11, 2) := by decide +kernel
theorem dX10_next_121 : decode cX10_next 121 = .ok (.if_icmp .le 9, 3) := by decide +kernel
theorem dX10_next_124 : decode cX10_next 124 = .ok (.ldc2_w 148, 3) := by decide +kernel
theorem dX10_next_127 : decode cX10_next 127 = .ok (.goto 26, 3) := by decide +kernel
theorem dX10_next_130 : decode cX10_next 130 = .ok (.ldc2_w 150, 3) := by decide +kernel
theorem dX10_next_133 : decode cX10_next 133 = .ok (.aload_n 0, 1) := by decide +kernel
theorem dX10_next_134 : decode cX10_next 134 = .ok (.getfield 141, 3) := by decide +kernel
theorem dX10_next_137 : decode cX10_next 137 = .ok (.lmul, 1) := by decide +kernel
theorem dX10_next_138 : decode cX10_next 138 = .ok (.aload_n 0, 1) := by decide +kernel
theorem dX10_next_139 : decode cX10_next 139 = .ok (.getfield 23, 3) := by decide +kernel
theorem dX10_next_142 : decode cX10_next 142 = .ok (.aload_n 0, 1) := by decide +kernel
theorem dX10_next_143 : decode cX10_next 143 = .ok (.getfield 128, 3) := by decide +kernel
theorem dX10_next_146 : decode cX10_next 146 = .ok (.baload, 1) := by decide +kernel
theorem dX10_next_147 : decode cX10_next 147 = .ok (.i2l, 1) := by decide +kernel
theorem dX10_next_148 : decode cX10_next 148 = .ok (.ladd, 1) := by decide +kernel
theorem dX10_next_149 : decode cX10_next 149 = .ok (.ldc2_w 152, 3) := by decide +kernel
theorem dX10_next_152 : decode cX10_next 152 = .ok (.lsub, 1) := by decide +kernel
theorem dX10_next_153 : decode cX10_next 153 = .ok (.putfield 141, 3) := by decide +kernel
theorem dX10_next_156 : decode cX10_next 156 = .ok (.iload_n 1, 1) := by decide +kernel
theorem dX10_next_157 : decode cX10_next 157 = .ok (.bipush 11, 2) := by decide +kernel
theorem dX10_next_159 : decode cX10_next 159 = .ok (.if_icmp .le 10, 3) := by decide +kernel
theorem dX10_next_162 : decode cX10_next 162 = .ok (.aload_n 0, 1) := by decide +kernel
theorem dX10_next_163 : decode cX10_next 163 = .ok (.ldc2_w 148, 3) := by decide +kernel
theorem dX10_next_166 : decode cX10_next 166 = .ok (.putfield 141, 3) := by decide +kernel
theorem dX10_next_169 : decode cX10_next 169 = .ok (.aload_n 0, 1) := by decide +kernel
theorem dX10_next_170 : decode cX10_next 170 = .ok (.dup, 1) := by decide +kernel
theorem dX10_next_171 : decode cX10_next 171 = .ok (.getfield 128, 3) := by decide +kernel
theorem dX10_next_174 : decode cX10_next 174 = .ok (.iconst 1, 1) := by decide +kernel
theorem dX10_next_175 : decode cX10_next 175 = .ok (.iadd, 1) := by decide +kernel
theorem dX10_next_176 : decode cX10_next 176 = .ok (.putfield 128, 3) := by decide +kernel
theorem dX10_next_179 : decode cX10_next 179 = .ok (.iinc 1 1, 3) := by decide +kernel
theorem dX10_next_182 : decode cX10_next 182 = .ok (.goto (-80), 3) := by decide +kernel
theorem dX10_next_185 : decode cX10_next 185 = .ok (.goto 122, 3) := by decide +kernel
theorem dX10_next_188 : decode cX10_next 188 = .ok (.aload_n 0, 1) := by decide +kernel
theorem dX10_next_189 : decode cX10_next 189 = .ok (.aload_n 0, 1) := by decide +kernel
theorem dX10_next_190 : decode cX10_next 190 = .ok (.getfield 128, 3) := by decide +kernel
theorem dX10_next_193 : decode cX10_next 193 = .ok (.bipush 48, 2) := by decide +kernel
theorem dX10_next_195 : decode cX10_next 195 = .ok (.bipush 57, 2) := by decide +kernel
theorem dX10_next_197 : decode cX10_next 197 = .ok (.invokevirtual 131, 3) := by decide +kernel
theorem dX10_next_200 : decode cX10_next 200 = .ok (.ifCond .eq 74, 3) := by decide +kernel
theorem dX10_next_203 : decode cX10_next 203 = .ok (.aload_n 0, 1) := by decide +kernel
theorem dX10_next_204 : decode cX10_next 204 = .ok (.iconst 2, 1) := by decide +kernel
theorem dX10_next_205 : decode cX10_next 205 = .ok (.putfield 145, 3) := by decide +kernel
theorem dX10_next_208 : decode cX10_next 208 = .ok (.aload_n 0, 1) := by decide +kernel
theorem dX10_next_209 : decode cX10_next 209 = .ok (.aload_n 0, 1) := by decide +kernel
theorem dX10_next_210 : decode cX10_next 210 = .ok (.getfield 128, 3) := by decide +kernel
theorem dX10_next_213 : decode cX10_next 213 = .ok (.bipush 48, 2) := by decide +kernel
theorem dX10_next_215 : decode cX10_next 215 = .ok (.bipush 57, 2) := by decide +kernel
theorem dX10_next_217 : decode cX10_next 217 = .ok (.invokevirtual 131, 3) := by decide +kernel
theorem dX10_next_220 : decode cX10_next 220 = .ok (.ifCond .eq 87, 3) := by decide +kernel
theorem dX10_next_223 : decode cX10_next 223 = .ok (.aload_n 0, 1) := by decide +kernel
theorem dX10_next_224 : decode cX10_next 224 = .ok (.aload_n 0, 1) := by decide +kernel
theorem dX10_next_225 : decode cX10_next 225 = .ok (.getfield 138, 3) := by decide +kernel
theorem dX10_next_228 : decode cX10_next 228 = .ok (.ldc 154, 2) := by decide +kernel
theorem dX10_next_230 : decode cX10_next 230 = .ok (.if_icmp .le 8, 3) := by decide +kernel
theorem dX10_next_233 : decode cX10_next 233 = .ok (.ldc 155, 2) := by decide +kernel
theorem dX10_next_235 : decode cX10_next 235 = .ok (.goto 23, 3) := by decide +kernel
theorem dX10_next_238 : decode cX10_next 238 = .ok (.bipush 10, 2) := by decide +kernel
theorem dX10_next_240 : decode cX10_next 240 = .ok (.aload_n 0, 1) := by decide +kernel
theorem dX10_next_241 : decode cX10_next 241 = .ok (.getfield 138, 3) := by decide +kernel
theorem dX10_next_244 : decode cX10_next 244 = .ok (.imul, 1) := by decide +kernel
theorem dX10_next_245 : decode cX10_next 245 = .ok (.aload_n 0, 1) := by decide +kernel
theorem dX10_next_246 : decode cX10_next 246 = .ok (.getfield 23, 3) := by decide +kernel
theorem dX10_next_249 : decode cX10_next 249 = .ok (.aload_n 0, 1) := by decide +kernel
theorem dX10_next_250 : decode cX10_next 250 = .ok (.getfield 128, 3) := by decide +kernel
theorem dX10_next_253 : decode cX10_next 253 = .ok (.baload, 1) := by decide +kernel
theorem dX10_next_254 : decode cX10_next 254 = .ok (.iadd, 1) := by decide +kernel
theorem dX10_next_255 : decode cX10_next 255 = .ok (.bipush 48, 2) := by decide +kernel
theorem dX10_next_257 : decode cX10_next 257 = .ok (.isub, 1) := by decide +kernel
theorem dX10_next_258 : decode cX10_next 258 = .ok (.putfield 138, 3) := by decide +kernel
theorem dX10_next_261 : decode cX10_next 261 = .ok (.aload_n 0, 1) := by decide +kernel
theorem dX10_next_262 : decode cX10_next 262 = .ok (.dup, 1) := by decide +kernel
theorem dX10_next_263 : decode cX10_next 263 = .ok (.getfield 128, 3) := by decide +kernel
theorem dX10_next_266 : decode cX10_next 266 = .ok (.iconst 1, 1) := by decide +kernel
theorem dX10_next_267 : decode cX10_next 267 = .ok (.iadd, 1) := by decide +kernel
theorem dX10_next_268 : decode cX10_next 268 = .ok (.putfield 128, 3) := by decide +kernel
theorem dX10_next_271 : decode cX10_next 271 = .ok (.goto (-63), 3) := by decide +kernel
theorem dX10_next_274 : decode cX10_next 274 = .ok (.aload_n 0, 1) := by decide +kernel
theorem dX10_next_275 : decode cX10_next 275 = .ok (.aload_n 0, 1) := by decide +kernel
theorem dX10_next_276 : decode cX10_next 276 = .ok (.getfield 23, 3) := by decide +kernel
theorem dX10_next_279 : decode cX10_next 279 = .ok (.aload_n 0, 1) := by decide +kernel
theorem dX10_next_280 : decode cX10_next 280 = .ok (.getfield 128, 3) := by decide +kernel
theorem dX10_next_283 : decode cX10_next 283 = .ok (.baload, 1) := by decide +kernel
theorem dX10_next_284 : decode cX10_next 284 = .ok (.bipush 59, 2) := by decide +kernel
theorem dX10_next_286 : decode cX10_next 286 = .ok (.if_icmp .ne 7, 3) := by decide +kernel
theorem dX10_next_289 : decode cX10_next 289 = .ok (.iconst 3, 1) := by decide +kernel
theorem dX10_next_290 : decode cX10_next 290 = .ok (.goto 4, 3) := by decide +kernel
theorem dX10_next_293 : decode cX10_next 293 = .ok (.iconst 4, 1) := by decide +kernel
theorem dX10_next_294 : decode cX10_next 294 = .ok (.putfield 145, 3) := by decide +kernel
theorem dX10_next_297 : decode cX10_next 297 = .ok (.aload_n 0, 1) := by decide +kernel
theorem dX10_next_298 : decode cX10_next 298 = .ok (.dup, 1) := by decide +kernel
theorem dX10_next_299 : decode cX10_next 299 = .ok (.getfield 128, 3) := by decide +kernel
theorem dX10_next_302 : decode cX10_next 302 = .ok (.iconst 1, 1) := by decide +kernel
theorem dX10_next_303 : decode cX10_next 303 = .ok (.iadd, 1) := by decide +kernel
theorem dX10_next_304 : decode cX10_next 304 = .ok (.putfield 128, 3) := by decide +kernel
theorem dX10_next_307 : decode cX10_next 307 = .ok (.return_, 1) := by decide +kernel
theorem dX10_isGood_0 : decode cX10_isGood 0 = .ok (.aload_n 0, 1) := by decide +kernel
theorem dX10_isGood_1 : decode cX10_isGood 1 = .ok (.getfield 156, 3) := by decide +kernel
theorem dX10_isGood_4 : decode cX10_isGood 4 = .ok (.ifCond .ne 7, 3) := by decide +kernel
theorem dX10_isGood_7 : decode cX10_isGood 7 = .ok (.iconst 1, 1) := by decide +kernel
theorem dX10_isGood_8 : decode cX10_isGood 8 = .ok (.goto 4, 3) := by decide +kernel
theorem dX10_isGood_11 : decode cX10_isGood 11 = .ok (.iconst 0, 1) := by decide +kernel
theorem dX10_isGood_12 : decode cX10_isGood 12 = .ok (.ireturn, 1) := by decide +kernel
theorem dX10_begins_0 : decode cX10_begins 0 = .ok (.aload_n 0, 1) := by decide +kernel
theorem dX10_begins_1 : decode cX10_begins 1 = .ok (.iconst 0, 1) := by decide +kernel
theorem dX10_begins_2 : decode cX10_begins 2 = .ok (.putfield 156, 3) := by decide +kernel
theorem dX10_begins_5 : decode cX10_begins 5 = .ok (.aload_n 0, 1) := by decide +kernel
theorem dX10_begins_6 : decode cX10_begins 6 = .ok (.iconst (-1), 1) := by decide +kernel
theorem dX10_begins_7 : decode cX10_begins 7 = .ok (.putfield 159, 3) := by decide +kernel
theorem dX10_begins_10 : decode cX10_begins 10 = .ok (.aload_n 0, 1) := by decide +kernel
theorem dX10_begins_11 : decode cX10_begins 11 = .ok (.iconst 0, 1) := by decide +kernel
theorem dX10_begins_12 : decode cX10_begins 12 = .ok (.putfield 128, 3) := by decide +kernel
theorem dX10_begins_15 : decode cX10_begins 15 = .ok (.aload_n 0, 1) := by decide +kernel
theorem dX10_begins_16 : decode cX10_begins 16 = .ok (.invokevirtual 166, 3) := by decide +kernel
theorem dX10_begins_19 : decode cX10_begins 19 = .ok (.return_, 1) := by decide +kernel
theorem dX10_isOver_0 : decode cX10_isOver 0 = .ok (.aload_n 0, 1) := by decide +kernel
theorem dX10_isOver_1 : decode cX10_isOver 1 = .ok (.iconst 0, 1) := by decide +kernel
theorem dX10_isOver_2 : decode cX10_isOver 2 = .ok (.putfield 121, 3) := by decide +kernel
theorem dX10_isOver_5 : decode cX10_isOver 5 = .ok (.aload_n 0, 1) := by decide +kernel
theorem dX10_isOver_6 : decode cX10_isOver 6 = .ok (.aload_n 0, 1) := by decide +kernel
theorem dX10_isOver_7 : decode cX10_isOver 7 = .ok (.getfield 156, 3) := by decide +kernel
theorem dX10_isOver_10 : decode cX10_isOver 10 = .ok (.putfield 183, 3) := by decide +kernel
theorem dX10_isOver_13 : decode cX10_isOver 13 = .ok (.aload_n 0, 1) := by decide +kernel
theorem dX10_isOver_14 : decode cX10_isOver 14 = .ok (.aload_n 0, 1) := by decide +kernel
theorem dX10_isOver_15 : decode cX10_isOver 15 = .ok (.getfield 156, 3) := by decide +kernel
theorem dX10_isOver_18 : decode cX10_isOver 18 = .ok (.ifCond .ne 7, 3) := by decide +kernel
theorem dX10_isOver_21 : decode cX10_isOver 21 = .ok (.iconst (-1), 1) := by decide +kernel
theorem dX10_isOver_22 : decode cX10_isOver 22 = .ok (.goto 7, 3) := by decide +kernel
theorem dX10_isOver_25 : decode cX10_isOver 25 = .ok (.aload_n 0, 1) := by decide +kernel
theorem dX10_isOver_26 : decode cX10_isOver 26 = .ok (.getfield 159, 3) := by decide +kernel
theorem dX10_isOver_29 : decode cX10_isOver 29 = .ok (.putfield 27, 3) := by decide +kernel
theorem dX10_isOver_32 : decode cX10_isOver 32 = .ok (.return_, 1) := by decide +kernel
theorem dX10_fault_0 : decode cX10_fault 0 = .ok (.aload_n 0, 1) := by decide +kernel
theorem dX10_fault_1 : decode cX10_fault 1 = .ok (.iconst 0, 1) := by decide +kernel
theorem dX10_fault_2 : decode cX10_fault 2 = .ok (.putfield 104, 3) := by decide +kernel
theorem dX10_fault_5 : decode cX10_fault 5 = .ok (.iload_n 1, 1) := by decide +kernel
theorem dX10_fault_6 : decode cX10_fault 6 = .ok (.ifCond .ne 10, 3) := by decide +kernel
theorem dX10_fault_9 : decode cX10_fault 9 = .ok (.aload_n 0, 1) := by decide +kernel
theorem dX10_fault_10 : decode cX10_fault 10 = .ok (.getfield 183, 3) := by decide +kernel
theorem dX10_fault_13 : decode cX10_fault 13 = .ok (.goto 16, 3) := by decide +kernel
theorem dX10_fault_16 : decode cX10_fault 16 = .ok (.iload_n 1, 1) := by decide +kernel
theorem dX10_fault_17 : decode cX10_fault 17 = .ok (.iconst 1, 1) := by decide +kernel
theorem dX10_fault_18 : decode cX10_fault 18 = .ok (.if_icmp .ne 10, 3) := by decide +kernel
theorem dX10_fault_21 : decode cX10_fault 21 = .ok (.aload_n 0, 1) := by decide +kernel
theorem dX10_fault_22 : decode cX10_fault 22 = .ok (.getfield 27, 3) := by decide +kernel
theorem dX10_fault_25 : decode cX10_fault 25 = .ok (.goto 4, 3) := by decide +kernel
theorem dX10_fault_28 : decode cX10_fault 28 = .ok (.iconst (-1), 1) := by decide +kernel
theorem dX10_fault_29 : decode cX10_fault 29 = .ok (.ireturn, 1) := by decide +kernel
theorem dX10_clears_0 : decode cX10_clears 0 = .ok (.aload_n 0, 1) := by decide +kernel
theorem dX10_clears_1 : decode cX10_clears 1 = .ok (.getfield 31, 3) := by decide +kernel
theorem dX10_clears_4 : decode cX10_clears 4 = .ok (.iconst 4, 1) := by decide +kernel
theorem dX10_clears_5 : decode cX10_clears 5 = .ok (.iconst 0, 1) := by decide +kernel
theorem dX10_clears_6 : decode cX10_clears 6 = .ok (.iastore, 1) := by decide +kernel
theorem dX10_clears_7 : decode cX10_clears 7 = .ok (.iconst 0, 1) := by decide +kernel
theorem dX10_clears_8 : decode cX10_clears 8 = .ok (.istore_n 1, 1) := by decide +kernel
theorem dX10_clears_9 : decode cX10_clears 9 = .ok (.iload_n 1, 1) := by decide +kernel
theorem dX10_clears_10 : decode cX10_clears 10 = .ok (.bipush 6, 2) := by decide +kernel
theorem dX10_clears_12 : decode cX10_clears 12 = .ok (.if_icmp .ge 28, 3) := by decide +kernel
theorem dX10_clears_15 : decode cX10_clears 15 = .ok (.aload_n 0, 1) := by decide +kernel
theorem dX10_clears_16 : decode cX10_clears 16 = .ok (.getfield 34, 3) := by decide +kernel
theorem dX10_clears_19 : decode cX10_clears 19 = .ok (.bipush 24, 2) := by decide +kernel
theorem dX10_clears_21 : decode cX10_clears 21 = .ok (.iload_n 1, 1) := by decide +kernel
theorem dX10_clears_22 : decode cX10_clears 22 = .ok (.iadd, 1) := by decide +kernel
theorem dX10_clears_23 : decode cX10_clears 23 = .ok (.iload_n 1, 1) := by decide +kernel
theorem dX10_clears_24 : decode cX10_clears 24 = .ok (.iconst 2, 1) := by decide +kernel
theorem dX10_clears_25 : decode cX10_clears 25 = .ok (.if_icmp .ne 7, 3) := by decide +kernel
theorem dX10_clears_28 : decode cX10_clears 28 = .ok (.iconst 1, 1) := by decide +kernel
theorem dX10_clears_29 : decode cX10_clears 29 = .ok (.goto 4, 3) := by decide +kernel
theorem dX10_clears_32 : decode cX10_clears 32 = .ok (.iconst 0, 1) := by decide +kernel
theorem dX10_clears_33 : decode cX10_clears 33 = .ok (.iastore, 1) := by decide +kernel
theorem dX10_clears_34 : decode cX10_clears 34 = .ok (.iinc 1 1, 3) := by decide +kernel
theorem dX10_clears_37 : decode cX10_clears 37 = .ok (.goto (-28), 3) := by decide +kernel
theorem dX10_clears_40 : decode cX10_clears 40 = .ok (.iconst 0, 1) := by decide +kernel
theorem dX10_clears_41 : decode cX10_clears 41 = .ok (.istore_n 1, 1) := by decide +kernel
theorem dX10_clears_42 : decode cX10_clears 42 = .ok (.iload_n 1, 1) := by decide +kernel
theorem dX10_clears_43 : decode cX10_clears 43 = .ok (.iconst 5, 1) := by decide +kernel
theorem dX10_clears_44 : decode cX10_clears 44 = .ok (.if_icmp .ge 19, 3) := by decide +kernel
theorem dX10_clears_47 : decode cX10_clears 47 = .ok (.aload_n 0, 1) := by decide +kernel
theorem dX10_clears_48 : decode cX10_clears 48 = .ok (.getfield 37, 3) := by decide +kernel
theorem dX10_clears_51 : decode cX10_clears 51 = .ok (.bipush 20, 2) := by decide +kernel
theorem dX10_clears_53 : decode cX10_clears 53 = .ok (.iload_n 1, 1) := by decide +kernel
theorem dX10_clears_54 : decode cX10_clears 54 = .ok (.iadd, 1) := by decide +kernel
theorem dX10_clears_55 : decode cX10_clears 55 = .ok (.iconst 0, 1) := by decide +kernel
theorem dX10_clears_56 : decode cX10_clears 56 = .ok (.iastore, 1) := by decide +kernel
theorem dX10_clears_57 : decode cX10_clears 57 = .ok (.iinc 1 1, 3) := by decide +kernel
theorem dX10_clears_60 : decode cX10_clears 60 = .ok (.goto (-18), 3) := by decide +kernel
theorem dX10_clears_63 : decode cX10_clears 63 = .ok (.iconst 0, 1) := by decide +kernel
theorem dX10_clears_64 : decode cX10_clears 64 = .ok (.istore_n 1, 1) := by decide +kernel
theorem dX10_clears_65 : decode cX10_clears 65 = .ok (.iload_n 1, 1) := by decide +kernel
theorem dX10_clears_66 : decode cX10_clears 66 = .ok (.iconst 4, 1) := by decide +kernel
theorem dX10_clears_67 : decode cX10_clears 67 = .ok (.if_icmp .ge 19, 3) := by decide +kernel
theorem dX10_clears_70 : decode cX10_clears 70 = .ok (.aload_n 0, 1) := by decide +kernel
theorem dX10_clears_71 : decode cX10_clears 71 = .ok (.getfield 40, 3) := by decide +kernel
theorem dX10_clears_74 : decode cX10_clears 74 = .ok (.bipush 16, 2) := by decide +kernel
theorem dX10_clears_76 : decode cX10_clears 76 = .ok (.iload_n 1, 1) := by decide +kernel
theorem dX10_clears_77 : decode cX10_clears 77 = .ok (.iadd, 1) := by decide +kernel
theorem dX10_clears_78 : decode cX10_clears 78 = .ok (.iconst 0, 1) := by decide +kernel
theorem dX10_clears_79 : decode cX10_clears 79 = .ok (.iastore, 1) := by decide +kernel
theorem dX10_clears_80 : decode cX10_clears 80 = .ok (.iinc 1 1, 3) := by decide +kernel
theorem dX10_clears_83 : decode cX10_clears 83 = .ok (.goto (-18), 3) := by decide +kernel
theorem dX10_clears_86 : decode cX10_clears 86 = .ok (.iconst 0, 1) := by decide +kernel
theorem dX10_clears_87 : decode cX10_clears 87 = .ok (.istore_n 1, 1) := by decide +kernel
theorem dX10_clears_88 : decode cX10_clears 88 = .ok (.iload_n 1, 1) := by decide +kernel
theorem dX10_clears_89 : decode cX10_clears 89 = .ok (.bipush 36, 2) := by decide +kernel
theorem dX10_clears_91 : decode cX10_clears 91 = .ok (.if_icmp .ge 20, 3) := by decide +kernel
theorem dX10_clears_94 : decode cX10_clears 94 = .ok (.aload_n 0, 1) := by decide +kernel
theorem dX10_clears_95 : decode cX10_clears 95 = .ok (.getfield 43, 3) := by decide +kernel
theorem dX10_clears_98 : decode cX10_clears 98 = .ok (.sipush 144, 3) := by decide +kernel
theorem dX10_clears_101 : decode cX10_clears 101 = .ok (.iload_n 1, 1) := by decide +kernel
theorem dX10_clears_102 : decode cX10_clears 102 = .ok (.iadd, 1) := by decide +kernel
theorem dX10_clears_103 : decode cX10_clears 103 = .ok (.iconst 0, 1) := by decide +kernel
theorem dX10_clears_104 : decode cX10_clears 104 = .ok (.iastore, 1) := by decide +kernel
theorem dX10_clears_105 : decode cX10_clears 105 = .ok (.iinc 1 1, 3) := by decide +kernel
theorem dX10_clears_108 : decode cX10_clears 108 = .ok (.goto (-20), 3) := by decide +kernel
theorem dX10_clears_111 : decode cX10_clears 111 = .ok (.aload_n 0, 1) := by decide +kernel
theorem dX10_clears_112 : decode cX10_clears 112 = .ok (.iconst 0, 1) := by decide +kernel
theorem dX10_clears_113 : decode cX10_clears 113 = .ok (.putfield 225, 3) := by decide +kernel
theorem dX10_clears_116 : decode cX10_clears 116 = .ok (.return_, 1) := by decide +kernel
theorem dX10_moor_0 : decode cX10_moor 0 = .ok (.aload_n 0, 1) := by decide +kernel
theorem dX10_moor_1 : decode cX10_moor 1 = .ok (.iconst 0, 1) := by decide +kernel
theorem dX10_moor_2 : decode cX10_moor 2 = .ok (.putfield 104, 3) := by decide +kernel
theorem dX10_moor_5 : decode cX10_moor 5 = .ok (.aload_n 0, 1) := by decide +kernel
theorem dX10_moor_6 : decode cX10_moor 6 = .ok (.invokevirtual 249, 3) := by decide +kernel
theorem dX10_moor_9 : decode cX10_moor 9 = .ok (.aload_n 0, 1) := by decide +kernel
theorem dX10_moor_10 : decode cX10_moor 10 = .ok (.invokevirtual 252, 3) := by decide +kernel
theorem dX10_moor_13 : decode cX10_moor 13 = .ok (.aload_n 0, 1) := by decide +kernel
theorem dX10_moor_14 : decode cX10_moor 14 = .ok (.invokevirtual 234, 3) := by decide +kernel
theorem dX10_moor_17 : decode cX10_moor 17 = .ok (.ifCond .eq 125, 3) := by decide +kernel
theorem dX10_moor_20 : decode cX10_moor 20 = .ok (.aload_n 0, 1) := by decide +kernel
theorem dX10_moor_21 : decode cX10_moor 21 = .ok (.getfield 145, 3) := by decide +kernel
theorem dX10_moor_24 : decode cX10_moor 24 = .ok (.ifCond .eq 118, 3) := by decide +kernel
theorem dX10_moor_27 : decode cX10_moor 27 = .ok (.aload_n 0, 1) := by decide +kernel
theorem dX10_moor_28 : decode cX10_moor 28 = .ok (.getfield 31, 3) := by decide +kernel
theorem dX10_moor_31 : decode cX10_moor 31 = .ok (.iconst 4, 1) := by decide +kernel
theorem dX10_moor_32 : decode cX10_moor 32 = .ok (.iaload, 1) := by decide +kernel
theorem dX10_moor_33 : decode cX10_moor 33 = .ok (.ifCond .ne 81, 3) := by decide +kernel
theorem dX10_moor_36 : decode cX10_moor 36 = .ok (.aload_n 0, 1) := by decide +kernel
theorem dX10_moor_37 : decode cX10_moor 37 = .ok (.ldc2_w 255, 3) := by decide +kernel
theorem dX10_moor_40 : decode cX10_moor 40 = .ok (.invokevirtual 175, 3) := by decide +kernel
theorem dX10_moor_43 : decode cX10_moor 43 = .ok (.aload_n 0, 1) := by decide +kernel
theorem dX10_moor_44 : decode cX10_moor 44 = .ok (.getfield 34, 3) := by decide +kernel
theorem dX10_moor_47 : decode cX10_moor 47 = .ok (.bipush 24, 2) := by decide +kernel
theorem dX10_moor_49 : decode cX10_moor 49 = .ok (.aload_n 0, 1) := by decide +kernel
theorem dX10_moor_50 : decode cX10_moor 50 = .ok (.ldc2_w 186, 3) := by decide +kernel
theorem dX10_moor_53 : decode cX10_moor 53 = .ok (.iconst 1, 1) := by decide +kernel
theorem dX10_moor_54 : decode cX10_moor 54 = .ok (.iconst 4, 1) := by decide +kernel
theorem dX10_moor_55 : decode cX10_moor 55 = .ok (.invokevirtual 204, 3) := by decide +kernel
theorem dX10_moor_58 : decode cX10_moor 58 = .ok (.iastore, 1) := by decide +kernel
theorem dX10_moor_59 : decode cX10_moor 59 = .ok (.aload_n 0, 1) := by decide +kernel
theorem dX10_moor_60 : decode cX10_moor 60 = .ok (.getfield 34, 3) := by decide +kernel
theorem dX10_moor_63 : decode cX10_moor 63 = .ok (.bipush 25, 2) := by decide +kernel
theorem dX10_moor_65 : decode cX10_moor 65 = .ok (.aload_n 0, 1) := by decide +kernel
theorem dX10_moor_66 : decode cX10_moor 66 = .ok (.ldc2_w 257, 3) := by decide +kernel
theorem dX10_moor_69 : decode cX10_moor 69 = .ok (.iconst 1, 1) := by decide +kernel
theorem dX10_moor_70 : decode cX10_moor 70 = .ok (.bipush 9, 2) := by decide +kernel
theorem dX10_moor_72 : decode cX10_moor 72 = .ok (.invokevirtual 204, 3) := by decide +kernel
theorem dX10_moor_75 : decode cX10_moor 75 = .ok (.iastore, 1) := by decide +kernel
theorem dX10_moor_76 : decode cX10_moor 76 = .ok (.aload_n 0, 1) := by decide +kernel
theorem dX10_moor_77 : decode cX10_moor 77 = .ok (.getfield 37, 3) := by decide +kernel
theorem dX10_moor_80 : decode cX10_moor 80 = .ok (.bipush 23, 2) := by decide +kernel
theorem dX10_moor_82 : decode cX10_moor 82 = .ok (.aload_n 0, 1) := by decide +kernel
theorem dX10_moor_83 : decode cX10_moor 83 = .ok (.ldc2_w 259, 3) := by decide +kernel
theorem dX10_moor_86 : decode cX10_moor 86 = .ok (.iconst 2, 1) := by decide +kernel
theorem dX10_moor_87 : decode cX10_moor 87 = .ok (.bipush 100, 2) := by decide +kernel
theorem dX10_moor_89 : decode cX10_moor 89 = .ok (.invokevirtual 204, 3) := by decide +kernel
theorem dX10_moor_92 : decode cX10_moor 92 = .ok (.iastore, 1) := by decide +kernel
theorem dX10_moor_93 : decode cX10_moor 93 = .ok (.aload_n 0, 1) := by decide +kernel
theorem dX10_moor_94 : decode cX10_moor 94 = .ok (.getfield 37, 3) := by decide +kernel
theorem dX10_moor_97 : decode cX10_moor 97 = .ok (.bipush 24, 2) := by decide +kernel
theorem dX10_moor_99 : decode cX10_moor 99 = .ok (.aload_n 0, 1) := by decide +kernel
theorem dX10_moor_100 : decode cX10_moor 100 = .ok (.ldc2_w 261, 3) := by decide +kernel
theorem dX10_moor_103 : decode cX10_moor 103 = .ok (.iconst 0, 1) := by decide +kernel
theorem dX10_moor_104 : decode cX10_moor 104 = .ok (.sipush 999, 3) := by decide +kernel
theorem dX10_moor_107 : decode cX10_moor 107 = .ok (.invokevirtual 204, 3) := by decide +kernel
theorem dX10_moor_110 : decode cX10_moor 110 = .ok (.iastore, 1) := by decide +kernel
theorem dX10_moor_111 : decode cX10_moor 111 = .ok (.goto 7, 3) := by decide +kernel
theorem dX10_moor_114 : decode cX10_moor 114 = .ok (.aload_n 0, 1) := by decide +kernel
theorem dX10_moor_115 : decode cX10_moor 115 = .ok (.invokevirtual 263, 3) := by decide +kernel
theorem dX10_moor_118 : decode cX10_moor 118 = .ok (.aload_n 0, 1) := by decide +kernel
theorem dX10_moor_119 : decode cX10_moor 119 = .ok (.invokevirtual 234, 3) := by decide +kernel
theorem dX10_moor_122 : decode cX10_moor 122 = .ok (.ifCond .eq 7, 3) := by decide +kernel
theorem dX10_moor_125 : decode cX10_moor 125 = .ok (.aload_n 0, 1) := by decide +kernel
theorem dX10_moor_126 : decode cX10_moor 126 = .ok (.invokevirtual 266, 3) := by decide +kernel
theorem dX10_moor_129 : decode cX10_moor 129 = .ok (.aload_n 0, 1) := by decide +kernel
theorem dX10_moor_130 : decode cX10_moor 130 = .ok (.getfield 31, 3) := by decide +kernel
theorem dX10_moor_133 : decode cX10_moor 133 = .ok (.iconst 4, 1) := by decide +kernel
theorem dX10_moor_134 : decode cX10_moor 134 = .ok (.dup2, 1) := by decide +kernel
theorem dX10_moor_135 : decode cX10_moor 135 = .ok (.iaload, 1) := by decide +kernel
theorem dX10_moor_136 : decode cX10_moor 136 = .ok (.iconst 1, 1) := by decide +kernel
theorem dX10_moor_137 : decode cX10_moor 137 = .ok (.iadd, 1) := by decide +kernel
theorem dX10_moor_138 : decode cX10_moor 138 = .ok (.iastore, 1) := by decide +kernel
theorem dX10_moor_139 : decode cX10_moor 139 = .ok (.goto (-126), 3) := by decide +kernel
theorem dX10_moor_142 : decode cX10_moor 142 = .ok (.aload_n 0, 1) := by decide +kernel
theorem dX10_moor_143 : decode cX10_moor 143 = .ok (.invokevirtual 269, 3) := by decide +kernel
theorem dX10_moor_146 : decode cX10_moor 146 = .ok (.aload_n 0, 1) := by decide +kernel
theorem dX10_moor_147 : decode cX10_moor 147 = .ok (.getfield 156, 3) := by decide +kernel
theorem dX10_moor_150 : decode cX10_moor 150 = .ok (.ifCond .eq 6, 3) := by decide +kernel
theorem dX10_moor_153 : decode cX10_moor 153 = .ok (.bipush (-4), 2) := by decide +kernel
theorem dX10_moor_155 : decode cX10_moor 155 = .ok (.ireturn, 1) := by decide +kernel
theorem dX10_moor_156 : decode cX10_moor 156 = .ok (.aload_n 0, 1) := by decide +kernel
theorem dX10_moor_157 : decode cX10_moor 157 = .ok (.iconst 4, 1) := by decide +kernel
theorem dX10_moor_158 : decode cX10_moor 158 = .ok (.iconst 0, 1) := by decide +kernel
theorem dX10_moor_159 : decode cX10_moor 159 = .ok (.invokevirtual 272, 3) := by decide +kernel
theorem dX10_moor_162 : decode cX10_moor 162 = .ok (.aload_n 0, 1) := by decide +kernel
theorem dX10_moor_163 : decode cX10_moor 163 = .ok (.getfield 31, 3) := by decide +kernel
theorem dX10_moor_166 : decode cX10_moor 166 = .ok (.iconst 0, 1) := by decide +kernel
theorem dX10_moor_167 : decode cX10_moor 167 = .ok (.iaload, 1) := by decide +kernel
theorem dX10_moor_168 : decode cX10_moor 168 = .ok (.ifCond .ne 10, 3) := by decide +kernel
theorem dX10_moor_171 : decode cX10_moor 171 = .ok (.aload_n 0, 1) := by decide +kernel
theorem dX10_moor_172 : decode cX10_moor 172 = .ok (.getfield 34, 3) := by decide +kernel
theorem dX10_moor_175 : decode cX10_moor 175 = .ok (.iconst 2, 1) := by decide +kernel
theorem dX10_moor_176 : decode cX10_moor 176 = .ok (.iconst 0, 1) := by decide +kernel
theorem dX10_moor_177 : decode cX10_moor 177 = .ok (.iastore, 1) := by decide +kernel
theorem dX10_moor_178 : decode cX10_moor 178 = .ok (.aload_n 0, 1) := by decide +kernel
theorem dX10_moor_179 : decode cX10_moor 179 = .ok (.getfield 31, 3) := by decide +kernel
theorem dX10_moor_182 : decode cX10_moor 182 = .ok (.iconst 0, 1) := by decide +kernel
theorem dX10_moor_183 : decode cX10_moor 183 = .ok (.iaload, 1) := by decide +kernel
theorem dX10_moor_184 : decode cX10_moor 184 = .ok (.ireturn, 1) := by decide +kernel
theorem dX10_copyRow_0 : decode cX10_copyRow 0 = .ok (.iconst 0, 1) := by decide +kernel
theorem dX10_copyRow_1 : decode cX10_copyRow 1 = .ok (.istore 4, 2) := by decide +kernel
theorem dX10_copyRow_3 : decode cX10_copyRow 3 = .ok (.iload 4, 2) := by decide +kernel
theorem dX10_copyRow_5 : decode cX10_copyRow 5 = .ok (.iload_n 1, 1) := by decide +kernel
theorem dX10_copyRow_6 : decode cX10_copyRow 6 = .ok (.if_icmp .ge 25, 3) := by decide +kernel
theorem dX10_copyRow_9 : decode cX10_copyRow 9 = .ok (.aload_n 0, 1) := by decide +kernel
theorem dX10_copyRow_10 : decode cX10_copyRow 10 = .ok (.iload_n 1, 1) := by decide +kernel
theorem dX10_copyRow_11 : decode cX10_copyRow 11 = .ok (.iload_n 3, 1) := by decide +kernel
theorem dX10_copyRow_12 : decode cX10_copyRow 12 = .ok (.imul, 1) := by decide +kernel
theorem dX10_copyRow_13 : decode cX10_copyRow 13 = .ok (.iload 4, 2) := by decide +kernel
theorem dX10_copyRow_15 : decode cX10_copyRow 15 = .ok (.iadd, 1) := by decide +kernel
theorem dX10_copyRow_16 : decode cX10_copyRow 16 = .ok (.aload_n 0, 1) := by decide +kernel
theorem dX10_copyRow_17 : decode cX10_copyRow 17 = .ok (.iload_n 1, 1) := by decide +kernel
theorem dX10_copyRow_18 : decode cX10_copyRow 18 = .ok (.iload_n 2, 1) := by decide +kernel
theorem dX10_copyRow_19 : decode cX10_copyRow 19 = .ok (.imul, 1) := by decide +kernel
theorem dX10_copyRow_20 : decode cX10_copyRow 20 = .ok (.iload 4, 2) := by decide +kernel
theorem dX10_copyRow_22 : decode cX10_copyRow 22 = .ok (.iadd, 1) := by decide +kernel
theorem dX10_copyRow_23 : decode cX10_copyRow 23 = .ok (.iaload, 1) := by decide +kernel
theorem dX10_copyRow_24 : decode cX10_copyRow 24 = .ok (.iastore, 1) := by decide +kernel
theorem dX10_copyRow_25 : decode cX10_copyRow 25 = .ok (.iinc 4 1, 3) := by decide +kernel
theorem dX10_copyRow_28 : decode cX10_copyRow 28 = .ok (.goto (-25), 3) := by decide +kernel
theorem dX10_copyRow_31 : decode cX10_copyRow 31 = .ok (.return_, 1) := by decide +kernel
theorem dX10_copyMoor_0 : decode cX10_copyMoor 0 = .ok (.aload_n 0, 1) := by decide +kernel
theorem dX10_copyMoor_1 : decode cX10_copyMoor 1 = .ok (.getfield 31, 3) := by decide +kernel
theorem dX10_copyMoor_4 : decode cX10_copyMoor 4 = .ok (.iconst 1, 1) := by decide +kernel
theorem dX10_copyMoor_5 : decode cX10_copyMoor 5 = .ok (.iload_n 1, 1) := by decide +kernel
theorem dX10_copyMoor_6 : decode cX10_copyMoor 6 = .ok (.iload_n 2, 1) := by decide +kernel
theorem dX10_copyMoor_7 : decode cX10_copyMoor 7 = .ok (.invokestatic 276, 3) := by decide +kernel
theorem dX10_copyMoor_10 : decode cX10_copyMoor 10 = .ok (.aload_n 0, 1) := by decide +kernel
theorem dX10_copyMoor_11 : decode cX10_copyMoor 11 = .ok (.getfield 34, 3) := by decide +kernel
theorem dX10_copyMoor_14 : decode cX10_copyMoor 14 = .ok (.bipush 6, 2) := by decide +kernel
theorem dX10_copyMoor_16 : decode cX10_copyMoor 16 = .ok (.iload_n 1, 1) := by decide +kernel
theorem dX10_copyMoor_17 : decode cX10_copyMoor 17 = .ok (.iload_n 2, 1) := by decide +kernel
theorem dX10_copyMoor_18 : decode cX10_copyMoor 18 = .ok (.invokestatic 276, 3) := by decide +kernel
theorem dX10_copyMoor_21 : decode cX10_copyMoor 21 = .ok (.aload_n 0, 1) := by decide +kernel
theorem dX10_copyMoor_22 : decode cX10_copyMoor 22 = .ok (.getfield 37, 3) := by decide +kernel
theorem dX10_copyMoor_25 : decode cX10_copyMoor 25 = .ok (.iconst 5, 1) := by decide +kernel
theorem dX10_copyMoor_26 : decode cX10_copyMoor 26 = .ok (.iload_n 1, 1) := by decide +kernel
theorem dX10_copyMoor_27 : decode cX10_copyMoor 27 = .ok (.iload_n 2, 1) := by decide +kernel
theorem dX10_copyMoor_28 : decode cX10_copyMoor 28 = .ok (.invokestatic 276, 3) := by decide +kernel
theorem dX10_copyMoor_31 : decode cX10_copyMoor 31 = .ok (.aload_n 0, 1) := by decide +kernel
theorem dX10_copyMoor_32 : decode cX10_copyMoor 32 = .ok (.getfield 40, 3) := by decide +kernel
theorem dX10_copyMoor_35 : decode cX10_copyMoor 35 = .ok (.iconst 4, 1) := by decide +kernel
theorem dX10_copyMoor_36 : decode cX10_copyMoor 36 = .ok (.iload_n 1, 1) := by decide +kernel
theorem dX10_copyMoor_37 : decode cX10_copyMoor 37 = .ok (.iload_n 2, 1) := by decide +kernel
theorem dX10_copyMoor_38 : decode cX10_copyMoor 38 = .ok (.invokestatic 276, 3) := by decide +kernel
theorem dX10_copyMoor_41 : decode cX10_copyMoor 41 = .ok (.aload_n 0, 1) := by decide +kernel
theorem dX10_copyMoor_42 : decode cX10_copyMoor 42 = .ok (.getfield 43, 3) := by decide +kernel
theorem dX10_copyMoor_45 : decode cX10_copyMoor 45 = .ok (.bipush 36, 2) := by decide +kernel
theorem dX10_copyMoor_47 : decode cX10_copyMoor 47 = .ok (.iload_n 1, 1) := by decide +kernel
theorem dX10_copyMoor_48 : decode cX10_copyMoor 48 = .ok (.iload_n 2, 1) := by decide +kernel
theorem dX10_copyMoor_49 : decode cX10_copyMoor 49 = .ok (.invokestatic 276, 3) := by decide +kernel
theorem dX10_copyMoor_52 : decode cX10_copyMoor 52 = .ok (.aload_n 0, 1) := by decide +kernel
theorem dX10_copyMoor_53 : decode cX10_copyMoor 53 = .ok (.getfield 46, 3) := by decide +kernel
theorem dX10_copyMoor_56 : decode cX10_copyMoor 56 = .ok (.bipush 104, 2) := by decide +kernel
theorem dX10_copyMoor_58 : decode cX10_copyMoor 58 = .ok (.iload_n 1, 1) := by decide +kernel
theorem dX10_copyMoor_59 : decode cX10_copyMoor 59 = .ok (.iload_n 2, 1) := by decide +kernel
theorem dX10_copyMoor_60 : decode cX10_copyMoor 60 = .ok (.invokestatic 276, 3) := by decide +kernel
theorem dX10_copyMoor_63 : decode cX10_copyMoor 63 = .ok (.return_, 1) := by decide +kernel
theorem dX10_isMoor_0 : decode cX10_isMoor 0 = .ok (.aload_n 0, 1) := by decide +kernel
theorem dX10_isMoor_1 : decode cX10_isMoor 1 = .ok (.getfield 31, 3) := by decide +kernel
theorem dX10_isMoor_4 : decode cX10_isMoor 4 = .ok (.iconst 0, 1) := by decide +kernel
theorem dX10_isMoor_5 : decode cX10_isMoor 5 = .ok (.iaload, 1) := by decide +kernel
theorem dX10_isMoor_6 : decode cX10_isMoor 6 = .ok (.ifCond .le 7, 3) := by decide +kernel
theorem dX10_isMoor_9 : decode cX10_isMoor 9 = .ok (.iconst 1, 1) := by decide +kernel
theorem dX10_isMoor_10 : decode cX10_isMoor 10 = .ok (.goto 4, 3) := by decide +kernel
theorem dX10_isMoor_13 : decode cX10_isMoor 13 = .ok (.iconst 0, 1) := by decide +kernel
theorem dX10_isMoor_14 : decode cX10_isMoor 14 = .ok (.ireturn, 1) := by decide +kernel
theorem dX10_isGap_0 : decode cX10_isGap 0 = .ok (.iload_n 1, 1) := by decide +kernel
theorem dX10_isGap_1 : decode cX10_isGap 1 = .ok (.i2l, 1) := by decide +kernel
theorem dX10_isGap_2 : decode cX10_isGap 2 = .ok (.lconst 0, 1) := by decide +kernel
theorem dX10_isGap_3 : decode cX10_isGap 3 = .ok (.aload_n 0, 1) := by decide +kernel
theorem dX10_isGap_4 : decode cX10_isGap 4 = .ok (.getfield 34, 3) := by decide +kernel
theorem dX10_isGap_7 : decode cX10_isGap 7 = .ok (.iconst 0, 1) := by decide +kernel
theorem dX10_isGap_8 : decode cX10_isGap 8 = .ok (.iaload, 1) := by decide +kernel
theorem dX10_isGap_9 : decode cX10_isGap 9 = .ok (.iconst 1, 1) := by decide +kernel
theorem dX10_isGap_10 : decode cX10_isGap 10 = .ok (.isub, 1) := by decide +kernel
theorem dX10_isGap_11 : decode cX10_isGap 11 = .ok (.i2l, 1) := by decide +kernel
theorem dX10_isGap_12 : decode cX10_isGap 12 = .ok (.invokestatic 109, 3) := by decide +kernel
theorem dX10_isGap_15 : decode cX10_isGap 15 = .ok (.ireturn, 1) := by decide +kernel
theorem dX10_isDay_0 : decode cX10_isDay 0 = .ok (.iload_n 1, 1) := by decide +kernel
theorem dX10_isDay_1 : decode cX10_isDay 1 = .ok (.i2l, 1) := by decide +kernel
theorem dX10_isDay_2 : decode cX10_isDay 2 = .ok (.lconst 0, 1) := by decide +kernel
theorem dX10_isDay_3 : decode cX10_isDay 3 = .ok (.aload_n 0, 1) := by decide +kernel
theorem dX10_isDay_4 : decode cX10_isDay 4 = .ok (.getfield 34, 3) := by decide +kernel
theorem dX10_isDay_7 : decode cX10_isDay 7 = .ok (.iconst 1, 1) := by decide +kernel
theorem dX10_isDay_8 : decode cX10_isDay 8 = .ok (.iaload, 1) := by decide +kernel
theorem dX10_isDay_9 : decode cX10_isDay 9 = .ok (.iconst 1, 1) := by decide +kernel
theorem dX10_isDay_10 : decode cX10_isDay 10 = .ok (.isub, 1) := by decide +kernel
theorem dX10_isDay_11 : decode cX10_isDay 11 = .ok (.i2l, 1) := by decide +kernel
theorem dX10_isDay_12 : decode cX10_isDay 12 = .ok (.invokestatic 109, 3) := by decide +kernel
theorem dX10_isDay_15 : decode cX10_isDay 15 = .ok (.ireturn, 1) := by decide +kernel
theorem dX10_isOwner_0 : decode cX10_isOwner 0 = .ok (.aload_n 0, 1) := by decide +kernel
theorem dX10_isOwner_1 : decode cX10_isOwner 1 = .ok (.invokevirtual 280, 3) := by decide +kernel
theorem dX10_isOwner_4 : decode cX10_isOwner 4 = .ok (.ifCond .eq 24, 3) := by decide +kernel
theorem dX10_isOwner_7 : decode cX10_isOwner 7 = .ok (.lload_n 1, 1) := by decide +kernel
theorem dX10_isOwner_8 : decode cX10_isOwner 8 = .ok (.lconst 0, 1) := by decide +kernel
theorem dX10_isOwner_9 : decode cX10_isOwner 9 = .ok (.aload_n 0, 1) := by decide +kernel
theorem dX10_isOwner_10 : decode cX10_isOwner 10 = .ok (.getfield 34, 3) := by decide +kernel
theorem dX10_isOwner_13 : decode cX10_isOwner 13 = .ok (.iconst 2, 1) := by decide +kernel
theorem dX10_isOwner_14 : decode cX10_isOwner 14 = .ok (.iaload, 1) := by decide +kernel
theorem dX10_isOwner_15 : decode cX10_isOwner 15 = .ok (.i2l, 1) := by decide +kernel
theorem dX10_isOwner_16 : decode cX10_isOwner 16 = .ok (.lconst 1, 1) := by decide +kernel
theorem dX10_isOwner_17 : decode cX10_isOwner 17 = .ok (.lsub, 1) := by decide +kernel
theorem dX10_isOwner_18 : decode cX10_isOwner 18 = .ok (.invokestatic 109, 3) := by decide +kernel
theorem dX10_isOwner_21 : decode cX10_isOwner 21 = .ok (.ifCond .eq 7, 3) := by decide +kernel
theorem dX10_isOwner_24 : decode cX10_isOwner 24 = .ok (.iconst 1, 1) := by decide +kernel
theorem dX10_isOwner_25 : decode cX10_isOwner 25 = .ok (.goto 4, 3) := by decide +kernel
theorem dX10_isOwner_28 : decode cX10_isOwner 28 = .ok (.iconst 0, 1) := by decide +kernel
theorem dX10_isOwner_29 : decode cX10_isOwner 29 = .ok (.ireturn, 1) := by decide +kernel

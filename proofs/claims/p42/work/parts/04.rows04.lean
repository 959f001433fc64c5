theorem dX9_paste_51 : decode cX9_paste 51 = .ok (.aload_n 0, 1) := by decide +kernel
theorem dX9_paste_52 : decode cX9_paste 52 = .ok (.getfield 46, 3) := by decide +kernel
theorem dX9_paste_55 : decode cX9_paste 55 = .ok (.getfield 347, 3) := by decide +kernel
theorem dX9_paste_58 : decode cX9_paste 58 = .ok (.iload_n 3, 1) := by decide +kernel
theorem dX9_paste_59 : decode cX9_paste 59 = .ok (.iaload, 1) := by decide +kernel
theorem dX9_paste_60 : decode cX9_paste 60 = .ok (.if_icmp .eq 6, 3) := by decide +kernel
theorem dX9_paste_63 : decode cX9_paste 63 = .ok (.bipush (-8), 2) := by decide +kernel
theorem dX9_paste_65 : decode cX9_paste 65 = .ok (.ireturn, 1) := by decide +kernel
theorem dX9_paste_66 : decode cX9_paste 66 = .ok (.aload_n 0, 1) := by decide +kernel
theorem dX9_paste_67 : decode cX9_paste 67 = .ok (.getfield 46, 3) := by decide +kernel
theorem dX9_paste_70 : decode cX9_paste 70 = .ok (.iload_n 1, 1) := by decide +kernel
theorem dX9_paste_71 : decode cX9_paste 71 = .ok (.iload_n 2, 1) := by decide +kernel
theorem dX9_paste_72 : decode cX9_paste 72 = .ok (.iload 5, 2) := by decide +kernel
theorem dX9_paste_74 : decode cX9_paste 74 = .ok (.invokevirtual 354, 3) := by decide +kernel
theorem dX9_paste_77 : decode cX9_paste 77 = .ok (.ifCond .eq 18, 3) := by decide +kernel
theorem dX9_paste_80 : decode cX9_paste 80 = .ok (.aload_n 0, 1) := by decide +kernel
theorem dX9_paste_81 : decode cX9_paste 81 = .ok (.getfield 46, 3) := by decide +kernel
theorem dX9_paste_84 : decode cX9_paste 84 = .ok (.iload_n 3, 1) := by decide +kernel
theorem dX9_paste_85 : decode cX9_paste 85 = .ok (.iload 4, 2) := by decide +kernel
theorem dX9_paste_87 : decode cX9_paste 87 = .ok (.iload 5, 2) := by decide +kernel
theorem dX9_paste_89 : decode cX9_paste 89 = .ok (.invokevirtual 354, 3) := by decide +kernel
theorem dX9_paste_92 : decode cX9_paste 92 = .ok (.ifCond .ne 6, 3) := by decide +kernel
theorem dX9_paste_95 : decode cX9_paste 95 = .ok (.bipush (-7), 2) := by decide +kernel
theorem dX9_paste_97 : decode cX9_paste 97 = .ok (.ireturn, 1) := by decide +kernel
theorem dX9_paste_98 : decode cX9_paste 98 = .ok (.aload_n 0, 1) := by decide +kernel
theorem dX9_paste_99 : decode cX9_paste 99 = .ok (.getfield 46, 3) := by decide +kernel
theorem dX9_paste_102 : decode cX9_paste 102 = .ok (.getfield 316, 3) := by decide +kernel
theorem dX9_paste_105 : decode cX9_paste 105 = .ok (.iload_n 1, 1) := by decide +kernel
theorem dX9_paste_106 : decode cX9_paste 106 = .ok (.aaload, 1) := by decide +kernel
theorem dX9_paste_107 : decode cX9_paste 107 = .ok (.iload_n 2, 1) := by decide +kernel
theorem dX9_paste_108 : decode cX9_paste 108 = .ok (.aload_n 0, 1) := by decide +kernel
theorem dX9_paste_109 : decode cX9_paste 109 = .ok (.getfield 46, 3) := by decide +kernel
theorem dX9_paste_112 : decode cX9_paste 112 = .ok (.getfield 316, 3) := by decide +kernel
theorem dX9_paste_115 : decode cX9_paste 115 = .ok (.iload_n 3, 1) := by decide +kernel
theorem dX9_paste_116 : decode cX9_paste 116 = .ok (.aaload, 1) := by decide +kernel
theorem dX9_paste_117 : decode cX9_paste 117 = .ok (.iload 4, 2) := by decide +kernel
theorem dX9_paste_119 : decode cX9_paste 119 = .ok (.iload 5, 2) := by decide +kernel
theorem dX9_paste_121 : decode cX9_paste 121 = .ok (.invokestatic 358, 3) := by decide +kernel
theorem dX9_paste_124 : decode cX9_paste 124 = .ok (.iconst 0, 1) := by decide +kernel
theorem dX9_paste_125 : decode cX9_paste 125 = .ok (.ireturn, 1) := by decide +kernel
theorem dX10_init_0 : decode cX10_init 0 = .ok (.aload_n 0, 1) := by decide +kernel
theorem dX10_init_1 : decode cX10_init 1 = .ok (.invokespecial 1, 3) := by decide +kernel
theorem dX10_init_4 : decode cX10_init 4 = .ok (.aload_n 0, 1) := by decide +kernel
theorem dX10_init_5 : decode cX10_init 5 = .ok (.iconst 4, 1) := by decide +kernel
theorem dX10_init_6 : decode cX10_init 6 = .ok (.newarray .int, 2) := by decide +kernel
theorem dX10_init_8 : decode cX10_init 8 = .ok (.putfield 7, 3) := by decide +kernel
theorem dX10_init_11 : decode cX10_init 11 = .ok (.aload_n 0, 1) := by decide +kernel
theorem dX10_init_12 : decode cX10_init 12 = .ok (.iconst 4, 1) := by decide +kernel
theorem dX10_init_13 : decode cX10_init 13 = .ok (.newarray .int, 2) := by decide +kernel
theorem dX10_init_15 : decode cX10_init 15 = .ok (.putfield 13, 3) := by decide +kernel
theorem dX10_init_18 : decode cX10_init 18 = .ok (.aload_n 0, 1) := by decide +kernel
theorem dX10_init_19 : decode cX10_init 19 = .ok (.sipush 240, 3) := by decide +kernel
theorem dX10_init_22 : decode cX10_init 22 = .ok (.newarray .long, 2) := by decide +kernel
theorem dX10_init_24 : decode cX10_init 24 = .ok (.putfield 16, 3) := by decide +kernel
theorem dX10_init_27 : decode cX10_init 27 = .ok (.aload_n 0, 1) := by decide +kernel
theorem dX10_init_28 : decode cX10_init 28 = .ok (.bipush 60, 2) := by decide +kernel
theorem dX10_init_30 : decode cX10_init 30 = .ok (.newarray .long, 2) := by decide +kernel
theorem dX10_init_32 : decode cX10_init 32 = .ok (.putfield 20, 3) := by decide +kernel
theorem dX10_init_35 : decode cX10_init 35 = .ok (.aload_n 0, 1) := by decide +kernel
theorem dX10_init_36 : decode cX10_init 36 = .ok (.sipush 1600, 3) := by decide +kernel
theorem dX10_init_39 : decode cX10_init 39 = .ok (.newarray .byte, 2) := by decide +kernel
theorem dX10_init_41 : decode cX10_init 41 = .ok (.putfield 23, 3) := by decide +kernel
theorem dX10_init_44 : decode cX10_init 44 = .ok (.aload_n 0, 1) := by decide +kernel
theorem dX10_init_45 : decode cX10_init 45 = .ok (.iconst (-1), 1) := by decide +kernel
theorem dX10_init_46 : decode cX10_init 46 = .ok (.putfield 27, 3) := by decide +kernel
theorem dX10_init_49 : decode cX10_init 49 = .ok (.aload_n 0, 1) := by decide +kernel
theorem dX10_init_50 : decode cX10_init 50 = .ok (.iconst 5, 1) := by decide +kernel
theorem dX10_init_51 : decode cX10_init 51 = .ok (.newarray .int, 2) := by decide +kernel
theorem dX10_init_53 : decode cX10_init 53 = .ok (.putfield 31, 3) := by decide +kernel
theorem dX10_init_56 : decode cX10_init 56 = .ok (.aload_n 0, 1) := by decide +kernel
theorem dX10_init_57 : decode cX10_init 57 = .ok (.bipush 30, 2) := by decide +kernel
theorem dX10_init_59 : decode cX10_init 59 = .ok (.newarray .int, 2) := by decide +kernel
theorem dX10_init_61 : decode cX10_init 61 = .ok (.putfield 34, 3) := by decide +kernel
theorem dX10_init_64 : decode cX10_init 64 = .ok (.aload_n 0, 1) := by decide +kernel
theorem dX10_init_65 : decode cX10_init 65 = .ok (.bipush 25, 2) := by decide +kernel
theorem dX10_init_67 : decode cX10_init 67 = .ok (.newarray .int, 2) := by decide +kernel
theorem dX10_init_69 : decode cX10_init 69 = .ok (.putfield 37, 3) := by decide +kernel
theorem dX10_init_72 : decode cX10_init 72 = .ok (.aload_n 0, 1) := by decide +kernel
theorem dX10_init_73 : decode cX10_init 73 = .ok (.bipush 20, 2) := by decide +kernel
theorem dX10_init_75 : decode cX10_init 75 = .ok (.newarray .int, 2) := by decide +kernel
theorem dX10_init_77 : decode cX10_init 77 = .ok (.putfield 40, 3) := by decide +kernel
theorem dX10_init_80 : decode cX10_init 80 = .ok (.aload_n 0, 1) := by decide +kernel
theorem dX10_init_81 : decode cX10_init 81 = .ok (.sipush 180, 3) := by decide +kernel
theorem dX10_init_84 : decode cX10_init 84 = .ok (.newarray .int, 2) := by decide +kernel
theorem dX10_init_86 : decode cX10_init 86 = .ok (.putfield 43, 3) := by decide +kernel
theorem dX10_init_89 : decode cX10_init 89 = .ok (.aload_n 0, 1) := by decide +kernel
theorem dX10_init_90 : decode cX10_init 90 = .ok (.sipush 520, 3) := by decide +kernel
theorem dX10_init_93 : decode cX10_init 93 = .ok (.newarray .int, 2) := by decide +kernel
theorem dX10_init_95 : decode cX10_init 95 = .ok (.putfield 46, 3) := by decide +kernel
theorem dX10_init_98 : decode cX10_init 98 = .ok (.aload_n 0, 1) := by decide +kernel
theorem dX10_init_99 : decode cX10_init 99 = .ok (.iconst 3, 1) := by decide +kernel
theorem dX10_init_100 : decode cX10_init 100 = .ok (.newarray .boolean, 2) := by decide +kernel
theorem dX10_init_102 : decode cX10_init 102 = .ok (.putfield 49, 3) := by decide +kernel
theorem dX10_init_105 : decode cX10_init 105 = .ok (.aload_n 0, 1) := by decide +kernel
theorem dX10_init_106 : decode cX10_init 106 = .ok (.iconst (-1), 1) := by decide +kernel
theorem dX10_init_107 : decode cX10_init 107 = .ok (.putfield 53, 3) := by decide +kernel
theorem dX10_init_110 : decode cX10_init 110 = .ok (.aload_n 0, 1) := by decide +kernel
theorem dX10_init_111 : decode cX10_init 111 = .ok (.bipush 13, 2) := by decide +kernel
theorem dX10_init_113 : decode cX10_init 113 = .ok (.newarray .int, 2) := by decide +kernel
theorem dX10_init_115 : decode cX10_init 115 = .ok (.putfield 56, 3) := by decide +kernel
theorem dX10_init_118 : decode cX10_init 118 = .ok (.aload_n 0, 1) := by decide +kernel
theorem dX10_init_119 : decode cX10_init 119 = .ok (.iconst 4, 1) := by decide +kernel
theorem dX10_init_120 : decode cX10_init 120 = .ok (.newarray .int, 2) := by decide +kernel
theorem dX10_init_122 : decode cX10_init 122 = .ok (.putfield 59, 3) := by decide +kernel
theorem dX10_init_125 : decode cX10_init 125 = .ok (.aload_n 0, 1) := by decide +kernel
theorem dX10_init_126 : decode cX10_init 126 = .ok (.bipush 36, 2) := by decide +kernel
theorem dX10_init_128 : decode cX10_init 128 = .ok (.newarray .int, 2) := by decide +kernel
theorem dX10_init_130 : decode cX10_init 130 = .ok (.putfield 62, 3) := by decide +kernel
theorem dX10_init_133 : decode cX10_init 133 = .ok (.aload_n 0, 1) := by decide +kernel
theorem dX10_init_134 : decode cX10_init 134 = .ok (.bipush 36, 2) := by decide +kernel
theorem dX10_init_136 : decode cX10_init 136 = .ok (.newarray .int, 2) := by decide +kernel
theorem dX10_init_138 : decode cX10_init 138 = .ok (.putfield 65, 3) := by decide +kernel
theorem dX10_init_141 : decode cX10_init 141 = .ok (.aload_n 0, 1) := by decide +kernel
theorem dX10_init_142 : decode cX10_init 142 = .ok (.bipush 36, 2) := by decide +kernel
theorem dX10_init_144 : decode cX10_init 144 = .ok (.newarray .int, 2) := by decide +kernel
theorem dX10_init_146 : decode cX10_init 146 = .ok (.putfield 68, 3) := by decide +kernel
theorem dX10_init_149 : decode cX10_init 149 = .ok (.aload_n 0, 1) := by decide +kernel
theorem dX10_init_150 : decode cX10_init 150 = .ok (.sipush 2574, 3) := by decide +kernel
theorem dX10_init_153 : decode cX10_init 153 = .ok (.newarray .int, 2) := by decide +kernel
theorem dX10_init_155 : decode cX10_init 155 = .ok (.putfield 71, 3) := by decide +kernel
theorem dX10_init_158 : decode cX10_init 158 = .ok (.aload_n 0, 1) := by decide +kernel
theorem dX10_init_159 : decode cX10_init 159 = .ok (.sipush 5200, 3) := by decide +kernel
theorem dX10_init_162 : decode cX10_init 162 = .ok (.newarray .int, 2) := by decide +kernel
theorem dX10_init_164 : decode cX10_init 164 = .ok (.putfield 74, 3) := by decide +kernel
theorem dX10_init_167 : decode cX10_init 167 = .ok (.aload_n 0, 1) := by decide +kernel
theorem dX10_init_168 : decode cX10_init 168 = .ok (.iconst 5, 1) := by decide +kernel
theorem dX10_init_169 : decode cX10_init 169 = .ok (.newarray .int, 2) := by decide +kernel
theorem dX10_init_171 : decode cX10_init 171 = .ok (.putfield 77, 3) := by decide +kernel
theorem dX10_init_174 : decode cX10_init 174 = .ok (.aload_n 0, 1) := by decide +kernel
theorem dX10_init_175 : decode cX10_init 175 = .ok (.iconst 5, 1) := by decide +kernel
theorem dX10_init_176 : decode cX10_init 176 = .ok (.newarray .int, 2) := by decide +kernel
theorem dX10_init_178 : decode cX10_init 178 = .ok (.putfield 80, 3) := by decide +kernel
theorem dX10_init_181 : decode cX10_init 181 = .ok (.aload_n 0, 1) := by decide +kernel
theorem dX10_init_182 : decode cX10_init 182 = .ok (.bipush 12, 2) := by decide +kernel
theorem dX10_init_184 : decode cX10_init 184 = .ok (.newarray .int, 2) := by decide +kernel
theorem dX10_init_186 : decode cX10_init 186 = .ok (.putfield 83, 3) := by decide +kernel
theorem dX10_init_189 : decode cX10_init 189 = .ok (.aload_n 0, 1) := by decide +kernel
theorem dX10_init_190 : decode cX10_init 190 = .ok (.bipush 12, 2) := by decide +kernel
theorem dX10_init_192 : decode cX10_init 192 = .ok (.newarray .int, 2) := by decide +kernel
theorem dX10_init_194 : decode cX10_init 194 = .ok (.putfield 86, 3) := by decide +kernel
theorem dX10_init_197 : decode cX10_init 197 = .ok (.aload_n 0, 1) := by decide +kernel
theorem dX10_init_198 : decode cX10_init 198 = .ok (.bipush 12, 2) := by decide +kernel
theorem dX10_init_200 : decode cX10_init 200 = .ok (.newarray .int, 2) := by decide +kernel
theorem dX10_init_202 : decode cX10_init 202 = .ok (.putfield 89, 3) := by decide +kernel
theorem dX10_init_205 : decode cX10_init 205 = .ok (.aload_n 0, 1) := by decide +kernel
theorem dX10_init_206 : decode cX10_init 206 = .ok (.bipush 13, 2) := by decide +kernel
theorem dX10_init_208 : decode cX10_init 208 = .ok (.newarray .int, 2) := by decide +kernel
theorem dX10_init_210 : decode cX10_init 210 = .ok (.putfield 92, 3) := by decide +kernel
theorem dX10_init_213 : decode cX10_init 213 = .ok (.aload_n 0, 1) := by decide +kernel
theorem dX10_init_214 : decode cX10_init 214 = .ok (.bipush 6, 2) := by decide +kernel
theorem dX10_init_216 : decode cX10_init 216 = .ok (.newarray .int, 2) := by decide +kernel
theorem dX10_init_218 : decode cX10_init 218 = .ok (.putfield 95, 3) := by decide +kernel
theorem dX10_init_221 : decode cX10_init 221 = .ok (.aload_n 0, 1) := by decide +kernel
theorem dX10_init_222 : decode cX10_init 222 = .ok (.bipush 6, 2) := by decide +kernel
theorem dX10_init_224 : decode cX10_init 224 = .ok (.newarray .int, 2) := by decide +kernel
theorem dX10_init_226 : decode cX10_init 226 = .ok (.putfield 98, 3) := by decide +kernel
theorem dX10_init_229 : decode cX10_init 229 = .ok (.aload_n 0, 1) := by decide +kernel
theorem dX10_init_230 : decode cX10_init 230 = .ok (.bipush 13, 2) := by decide +kernel
theorem dX10_init_232 : decode cX10_init 232 = .ok (.newarray .int, 2) := by decide +kernel
theorem dX10_init_234 : decode cX10_init 234 = .ok (.putfield 101, 3) := by decide +kernel
theorem dX10_init_237 : decode cX10_init 237 = .ok (.iconst 0, 1) := by decide +kernel
theorem dX10_init_238 : decode cX10_init 238 = .ok (.istore_n 1, 1) := by decide +kernel
theorem dX10_init_239 : decode cX10_init 239 = .ok (.iload_n 1, 1) := by decide +kernel
theorem dX10_init_240 : decode cX10_init 240 = .ok (.iconst 4, 1) := by decide +kernel
theorem dX10_init_241 : decode cX10_init 241 = .ok (.if_icmp .ge 16, 3) := by decide +kernel
theorem dX10_init_244 : decode cX10_init 244 = .ok (.aload_n 0, 1) := by decide +kernel
theorem dX10_init_245 : decode cX10_init 245 = .ok (.getfield 7, 3) := by decide +kernel
theorem dX10_init_248 : decode cX10_init 248 = .ok (.iload_n 1, 1) := by decide +kernel
theorem dX10_init_249 : decode cX10_init 249 = .ok (.iconst (-1), 1) := by decide +kernel
theorem dX10_init_250 : decode cX10_init 250 = .ok (.iastore, 1) := by decide +kernel
theorem dX10_init_251 : decode cX10_init 251 = .ok (.iinc 1 1, 3) := by decide +kernel
theorem dX10_init_254 : decode cX10_init 254 = .ok (.goto (-15), 3) := by decide +kernel
theorem dX10_init_257 : decode cX10_init 257 = .ok (.return_, 1) := by decide +kernel
theorem dX10_in_0 : decode cX10_in 0 = .ok (.lload_n 0, 1) := by decide +kernel
theorem dX10_in_1 : decode cX10_in 1 = .ok (.lload_n 2, 1) := by decide +kernel
theorem dX10_in_2 : decode cX10_in 2 = .ok (.lcmp, 1) := by decide +kernel
theorem dX10_in_3 : decode cX10_in 3 = .ok (.ifCond .lt 14, 3) := by decide +kernel
theorem dX10_in_6 : decode cX10_in 6 = .ok (.lload_n 0, 1) := by decide +kernel
theorem dX10_in_7 : decode cX10_in 7 = .ok (.lload 4, 2) := by decide +kernel
theorem dX10_in_9 : decode cX10_in 9 = .ok (.lcmp, 1) := by decide +kernel
theorem dX10_in_10 : decode cX10_in 10 = .ok (.ifCond .gt 7, 3) := by decide +kernel
theorem dX10_in_13 : decode cX10_in 13 = .ok (.iconst 1, 1) := by decide +kernel
theorem dX10_in_14 : decode cX10_in 14 = .ok (.goto 4, 3) := by decide +kernel
theorem dX10_in_17 : decode cX10_in 17 = .ok (.iconst 0, 1) := by decide +kernel
theorem dX10_in_18 : decode cX10_in 18 = .ok (.ireturn, 1) := by decide +kernel
theorem dX10_isSlot_0 : decode cX10_isSlot 0 = .ok (.iload_n 0, 1) := by decide +kernel
theorem dX10_isSlot_1 : decode cX10_isSlot 1 = .ok (.i2l, 1) := by decide +kernel
theorem dX10_isSlot_2 : decode cX10_isSlot 2 = .ok (.lconst 0, 1) := by decide +kernel
theorem dX10_isSlot_3 : decode cX10_isSlot 3 = .ok (.ldc2_w 107, 3) := by decide +kernel
theorem dX10_isSlot_6 : decode cX10_isSlot 6 = .ok (.invokestatic 109, 3) := by decide +kernel
theorem dX10_isSlot_9 : decode cX10_isSlot 9 = .ok (.ireturn, 1) := by decide +kernel
theorem dX10_row_0 : decode cX10_row 0 = .ok (.aload_n 0, 1) := by decide +kernel
theorem dX10_row_1 : decode cX10_row 1 = .ok (.iconst 0, 1) := by decide +kernel
theorem dX10_row_2 : decode cX10_row 2 = .ok (.putfield 104, 3) := by decide +kernel
theorem dX10_row_5 : decode cX10_row 5 = .ok (.iload_n 1, 1) := by decide +kernel
theorem dX10_row_6 : decode cX10_row 6 = .ok (.invokestatic 113, 3) := by decide +kernel
theorem dX10_row_9 : decode cX10_row 9 = .ok (.ifCond .eq 21, 3) := by decide +kernel
theorem dX10_row_12 : decode cX10_row 12 = .ok (.iload_n 2, 1) := by decide +kernel
theorem dX10_row_13 : decode cX10_row 13 = .ok (.i2l, 1) := by decide +kernel
theorem dX10_row_14 : decode cX10_row 14 = .ok (.lconst 0, 1) := by decide +kernel
theorem dX10_row_15 : decode cX10_row 15 = .ok (.ldc2_w 107, 3) := by decide +kernel
theorem dX10_row_18 : decode cX10_row 18 = .ok (.invokestatic 109, 3) := by decide +kernel
theorem dX10_row_21 : decode cX10_row 21 = .ok (.ifCond .eq 9, 3) := by decide +kernel
theorem dX10_row_24 : decode cX10_row 24 = .ok (.iload_n 3, 1) := by decide +kernel
theorem dX10_row_25 : decode cX10_row 25 = .ok (.bipush 60, 2) := by decide +kernel
theorem dX10_row_27 : decode cX10_row 27 = .ok (.if_icmp .le 6, 3) := by decide +kernel
theorem dX10_row_30 : decode cX10_row 30 = .ok (.bipush (-2), 2) := by decide +kernel
theorem dX10_row_32 : decode cX10_row 32 = .ok (.ireturn, 1) := by decide +kernel
theorem dX10_row_33 : decode cX10_row 33 = .ok (.iload_n 3, 1) := by decide +kernel
theorem dX10_row_34 : decode cX10_row 34 = .ok (.ifCond .ge 6, 3) := by decide +kernel
theorem dX10_row_37 : decode cX10_row 37 = .ok (.bipush (-3), 2) := by decide +kernel
theorem dX10_row_39 : decode cX10_row 39 = .ok (.ireturn, 1) := by decide +kernel
theorem dX10_row_40 : decode cX10_row 40 = .ok (.aload_n 0, 1) := by decide +kernel
theorem dX10_row_41 : decode cX10_row 41 = .ok (.getfield 7, 3) := by decide +kernel
theorem dX10_row_44 : decode cX10_row 44 = .ok (.iload_n 1, 1) := by decide +kernel
theorem dX10_row_45 : decode cX10_row 45 = .ok (.iload_n 2, 1) := by decide +kernel
theorem dX10_row_46 : decode cX10_row 46 = .ok (.iastore, 1) := by decide +kernel
theorem dX10_row_47 : decode cX10_row 47 = .ok (.aload_n 0, 1) := by decide +kernel
theorem dX10_row_48 : decode cX10_row 48 = .ok (.getfield 13, 3) := by decide +kernel
theorem dX10_row_51 : decode cX10_row 51 = .ok (.iload_n 1, 1) := by decide +kernel
theorem dX10_row_52 : decode cX10_row 52 = .ok (.iload_n 3, 1) := by decide +kernel
theorem dX10_row_53 : decode cX10_row 53 = .ok (.iastore, 1) := by decide +kernel
theorem dX10_row_54 : decode cX10_row 54 = .ok (.iconst 0, 1) := by decide +kernel
theorem dX10_row_55 : decode cX10_row 55 = .ok (.istore 4, 2) := by decide +kernel
theorem dX10_row_57 : decode cX10_row 57 = .ok (.iload 4, 2) := by decide +kernel
theorem dX10_row_59 : decode cX10_row 59 = .ok (.iload_n 3, 1) := by decide +kernel
theorem dX10_row_60 : decode cX10_row 60 = .ok (.if_icmp .ge 22, 3) := by decide +kernel
theorem dX10_row_63 : decode cX10_row 63 = .ok (.aload_n 0, 1) := by decide +kernel
theorem dX10_row_64 : decode cX10_row 64 = .ok (.getfield 16, 3) := by decide +kernel
theorem dX10_row_67 : decode cX10_row 67 = .ok (.bipush 60, 2) := by decide +kernel
theorem dX10_row_69 : decode cX10_row 69 = .ok (.iload_n 1, 1) := by decide +kernel
theorem dX10_row_70 : decode cX10_row 70 = .ok (.imul, 1) := by decide +kernel
theorem dX10_row_71 : decode cX10_row 71 = .ok (.iload 4, 2) := by decide +kernel
theorem dX10_row_73 : decode cX10_row 73 = .ok (.iadd, 1) := by decide +kernel
theorem dX10_row_74 : decode cX10_row 74 = .ok (.lconst 0, 1) := by decide +kernel
theorem dX10_row_75 : decode cX10_row 75 = .ok (.lastore, 1) := by decide +kernel
theorem dX10_row_76 : decode cX10_row 76 = .ok (.iinc 4 1, 3) := by decide +kernel
theorem dX10_row_79 : decode cX10_row 79 = .ok (.goto (-22), 3) := by decide +kernel
theorem dX10_row_82 : decode cX10_row 82 = .ok (.iconst 0, 1) := by decide +kernel
theorem dX10_row_83 : decode cX10_row 83 = .ok (.ireturn, 1) := by decide +kernel
theorem dX10_cut_0 : decode cX10_cut 0 = .ok (.iload_n 2, 1) := by decide +kernel
theorem dX10_cut_1 : decode cX10_cut 1 = .ok (.ifCond .ne 10, 3) := by decide +kernel
theorem dX10_cut_4 : decode cX10_cut 4 = .ok (.lload_n 0, 1) := by decide +kernel
theorem dX10_cut_5 : decode cX10_cut 5 = .ok (.l2i, 1) := by decide +kernel
theorem dX10_cut_6 : decode cX10_cut 6 = .ok (.i2b, 1) := by decide +kernel
theorem dX10_cut_7 : decode cX10_cut 7 = .ok (.i2l, 1) := by decide +kernel
theorem dX10_cut_8 : decode cX10_cut 8 = .ok (.goto 27, 3) := by decide +kernel
theorem dX10_cut_11 : decode cX10_cut 11 = .ok (.iload_n 2, 1) := by decide +kernel
theorem dX10_cut_12 : decode cX10_cut 12 = .ok (.iconst 1, 1) := by decide +kernel
theorem dX10_cut_13 : decode cX10_cut 13 = .ok (.if_icmp .ne 10, 3) := by decide +kernel
theorem dX10_cut_16 : decode cX10_cut 16 = .ok (.lload_n 0, 1) := by decide +kernel
theorem dX10_cut_17 : decode cX10_cut 17 = .ok (.l2i, 1) := by decide +kernel
theorem dX10_cut_18 : decode cX10_cut 18 = .ok (.i2s, 1) := by decide +kernel
theorem dX10_cut_19 : decode cX10_cut 19 = .ok (.i2l, 1) := by decide +kernel
theorem dX10_cut_20 : decode cX10_cut 20 = .ok (.goto 15, 3) := by decide +kernel
theorem dX10_cut_23 : decode cX10_cut 23 = .ok (.iload_n 2, 1) := by decide +kernel
theorem dX10_cut_24 : decode cX10_cut 24 = .ok (.iconst 2, 1) := by decide +kernel
theorem dX10_cut_25 : decode cX10_cut 25 = .ok (.if_icmp .ne 9, 3) := by decide +kernel
theorem dX10_cut_28 : decode cX10_cut 28 = .ok (.lload_n 0, 1) := by decide +kernel
theorem dX10_cut_29 : decode cX10_cut 29 = .ok (.l2i, 1) := by decide +kernel
theorem dX10_cut_30 : decode cX10_cut 30 = .ok (.i2l, 1) := by decide +kernel
theorem dX10_cut_31 : decode cX10_cut 31 = .ok (.goto 4, 3) := by decide +kernel
theorem dX10_cut_34 : decode cX10_cut 34 = .ok (.lload_n 0, 1) := by decide +kernel
theorem dX10_cut_35 : decode cX10_cut 35 = .ok (.lreturn, 1) := by decide +kernel
theorem dX10_write_0 : decode cX10_write 0 = .ok (.aload_n 0, 1) := by decide +kernel
theorem dX10_write_1 : decode cX10_write 1 = .ok (.iconst 0, 1) := by decide +kernel
theorem dX10_write_2 : decode cX10_write 2 = .ok (.putfield 104, 3) := by decide +kernel
theorem dX10_write_5 : decode cX10_write 5 = .ok (.iload_n 1, 1) := by decide +kernel
theorem dX10_write_6 : decode cX10_write 6 = .ok (.invokestatic 113, 3) := by decide +kernel
theorem dX10_write_9 : decode cX10_write 9 = .ok (.ifCond .ne 6, 3) := by decide +kernel
theorem dX10_write_12 : decode cX10_write 12 = .ok (.bipush (-2), 2) := by decide +kernel
theorem dX10_write_14 : decode cX10_write 14 = .ok (.ireturn, 1) := by decide +kernel
theorem dX10_write_15 : decode cX10_write 15 = .ok (.aload_n 0, 1) := by decide +kernel
theorem dX10_write_16 : decode cX10_write 16 = .ok (.getfield 7, 3) := by decide +kernel
theorem dX10_write_19 : decode cX10_write 19 = .ok (.iload_n 1, 1) := by decide +kernel
theorem dX10_write_20 : decode cX10_write 20 = .ok (.iaload, 1) := by decide +kernel
theorem dX10_write_21 : decode cX10_write 21 = .ok (.iconst (-1), 1) := by decide +kernel
theorem dX10_write_22 : decode cX10_write 22 = .ok (.if_icmp .ne 6, 3) := by decide +kernel
theorem dX10_write_25 : decode cX10_write 25 = .ok (.bipush (-6), 2) := by decide +kernel
theorem dX10_write_27 : decode cX10_write 27 = .ok (.ireturn, 1) := by decide +kernel
theorem dX10_write_28 : decode cX10_write 28 = .ok (.iload_n 2, 1) := by decide +kernel
theorem dX10_write_29 : decode cX10_write 29 = .ok (.i2l, 1) := by decide +kernel
theorem dX10_write_30 : decode cX10_write 30 = .ok (.lconst 0, 1) := by decide +kernel
theorem dX10_write_31 : decode cX10_write 31 = .ok (.aload_n 0, 1) := by decide +kernel
theorem dX10_write_32 : decode cX10_write 32 = .ok (.getfield 13, 3) := by decide +kernel
theorem dX10_write_35 : decode cX10_write 35 = .ok (.iload_n 1, 1) := by decide +kernel
theorem dX10_write_36 : decode cX10_write 36 = .ok (.iaload, 1) := by decide +kernel
theorem dX10_write_37 : decode cX10_write 37 = .ok (.iconst 1, 1) := by decide +kernel
theorem dX10_write_38 : decode cX10_write 38 = .ok (.isub, 1) := by decide +kernel
theorem dX10_write_39 : decode cX10_write 39 = .ok (.i2l, 1) := by decide +kernel
theorem dX10_write_40 : decode cX10_write 40 = .ok (.invokestatic 109, 3) := by decide +kernel
theorem dX10_write_43 : decode cX10_write 43 = .ok (.ifCond .ne 6, 3) := by decide +kernel
theorem dX10_write_46 : decode cX10_write 46 = .ok (.bipush (-7), 2) := by decide +kernel
theorem dX10_write_48 : decode cX10_write 48 = .ok (.ireturn, 1) := by decide +kernel
theorem dX10_write_49 : decode cX10_write 49 = .ok (.aload_n 0, 1) := by decide +kernel
theorem dX10_write_50 : decode cX10_write 50 = .ok (.getfield 16, 3) := by decide +kernel
theorem dX10_write_53 : decode cX10_write 53 = .ok (.bipush 60, 2) := by decide +kernel
theorem dX10_write_55 : decode cX10_write 55 = .ok (.iload_n 1, 1) := by decide +kernel
theorem dX10_write_56 : decode cX10_write 56 = .ok (.imul, 1) := by decide +kernel
theorem dX10_write_57 : decode cX10_write 57 = .ok (.iload_n 2, 1) := by decide +kernel
theorem dX10_write_58 : decode cX10_write 58 = .ok (.iadd, 1) := by decide +kernel
theorem dX10_write_59 : decode cX10_write 59 = .ok (.lload_n 3, 1) := by decide +kernel
theorem dX10_write_60 : decode cX10_write 60 = .ok (.aload_n 0, 1) := by decide +kernel
theorem dX10_write_61 : decode cX10_write 61 = .ok (.getfield 7, 3) := by decide +kernel
theorem dX10_write_64 : decode cX10_write 64 = .ok (.iload_n 1, 1) := by decide +kernel
theorem dX10_write_65 : decode cX10_write 65 = .ok (.iaload, 1) := by decide +kernel
theorem dX10_write_66 : decode cX10_write 66 = .ok (.invokestatic 117, 3) := by decide +kernel
theorem dX10_write_69 : decode cX10_write 69 = .ok (.lastore, 1) := by decide +kernel
theorem dX10_write_70 : decode cX10_write 70 = .ok (.iconst 0, 1) := by decide +kernel
theorem dX10_write_71 : decode cX10_write 71 = .ok (.ireturn, 1) := by decide +kernel
theorem dX10_paste_0 : decode cX10_paste 0 = .ok (.aload_n 0, 1) := by decide +kernel
theorem dX10_paste_1 : decode cX10_paste 1 = .ok (.iconst 0, 1) := by decide +kernel
theorem dX10_paste_2 : decode cX10_paste 2 = .ok (.putfield 104, 3) := by decide +kernel
theorem dX10_paste_5 : decode cX10_paste 5 = .ok (.iload_n 1, 1) := by decide +kernel
theorem dX10_paste_6 : decode cX10_paste 6 = .ok (.invokestatic 113, 3) := by decide +kernel
theorem dX10_paste_9 : decode cX10_paste 9 = .ok (.ifCond .eq 10, 3) := by decide +kernel
theorem dX10_paste_12 : decode cX10_paste 12 = .ok (.iload_n 3, 1) := by decide +kernel
theorem dX10_paste_13 : decode cX10_paste 13 = .ok (.invokestatic 113, 3) := by decide +kernel
theorem dX10_paste_16 : decode cX10_paste 16 = .ok (.ifCond .ne 6, 3) := by decide +kernel
theorem dX10_paste_19 : decode cX10_paste 19 = .ok (.bipush (-2), 2) := by decide +kernel
theorem dX10_paste_21 : decode cX10_paste 21 = .ok (.ireturn, 1) := by decide +kernel
theorem dX10_paste_22 : decode cX10_paste 22 = .ok (.aload_n 0, 1) := by decide +kernel
theorem dX10_paste_23 : decode cX10_paste 23 = .ok (.getfield 7, 3) := by decide +kernel
theorem dX10_paste_26 : decode cX10_paste 26 = .ok (.iload_n 1, 1) := by decide +kernel
theorem dX10_paste_27 : decode cX10_paste 27 = .ok (.iaload, 1) := by decide +kernel
theorem dX10_paste_28 : decode cX10_paste 28 = .ok (.iconst (-1), 1) := by decide +kernel
theorem dX10_paste_29 : decode cX10_paste 29 = .ok (.if_icmp .eq 13, 3) := by decide +kernel
theorem dX10_paste_32 : decode cX10_paste 32 = .ok (.aload_n 0, 1) := by decide +kernel
theorem dX10_paste_33 : decode cX10_paste 33 = .ok (.getfield 7, 3) := by decide +kernel
theorem dX10_paste_36 : decode cX10_paste 36 = .ok (.iload_n 3, 1) := by decide +kernel
theorem dX10_paste_37 : decode cX10_paste 37 = .ok (.iaload, 1) := by decide +kernel
theorem dX10_paste_38 : decode cX10_paste 38 = .ok (.iconst (-1), 1) := by decide +kernel
theorem dX10_paste_39 : decode cX10_paste 39 = .ok (.if_icmp .ne 6, 3) := by decide +kernel
theorem dX10_paste_42 : decode cX10_paste 42 = .ok (.bipush (-6), 2) := by decide +kernel
theorem dX10_paste_44 : decode cX10_paste 44 = .ok (.ireturn, 1) := by decide +kernel
theorem dX10_paste_45 : decode cX10_paste 45 = .ok (.aload_n 0, 1) := by decide +kernel
theorem dX10_paste_46 : decode cX10_paste 46 = .ok (.getfield 7, 3) := by decide +kernel
theorem dX10_paste_49 : decode cX10_paste 49 = .ok (.iload_n 1, 1) := by decide +kernel
theorem dX10_paste_50 : decode cX10_paste 50 = .ok (.iaload, 1) := by decide +kernel
theorem dX10_paste_51 : decode cX10_paste 51 = .ok (.aload_n 0, 1) := by decide +kernel
theorem dX10_paste_52 : decode cX10_paste 52 = .ok (.getfield 7, 3) := by decide +kernel
theorem dX10_paste_55 : decode cX10_paste 55 = .ok (.iload_n 3, 1) := by decide +kernel
theorem dX10_paste_56 : decode cX10_paste 56 = .ok (.iaload, 1) := by decide +kernel
theorem dX10_paste_57 : decode cX10_paste 57 = .ok (.if_icmp .eq 6, 3) := by decide +kernel
theorem dX10_paste_60 : decode cX10_paste 60 = .ok (.bipush (-8), 2) := by decide +kernel
theorem dX10_paste_62 : decode cX10_paste 62 = .ok (.ireturn, 1) := by decide +kernel
theorem dX10_paste_63 : decode cX10_paste 63 = .ok (.iload_n 2, 1) := by decide +kernel
theorem dX10_paste_64 : decode cX10_paste 64 = .ok (.ifCond .lt 48, 3) := by decide +kernel
theorem dX10_paste_67 : decode cX10_paste 67 = .ok (.iload 4, 2) := by decide +kernel
theorem dX10_paste_69 : decode cX10_paste 69 = .ok (.ifCond .lt 43, 3) := by decide +kernel
theorem dX10_paste_72 : decode cX10_paste 72 = .ok (.iload 5, 2) := by decide +kernel
theorem dX10_paste_74 : decode cX10_paste 74 = .ok (.ifCond .lt 38, 3) := by decide +kernel
theorem dX10_paste_77 : decode cX10_paste 77 = .ok (.iload_n 2, 1) := by decide +kernel
theorem dX10_paste_78 : decode cX10_paste 78 = .ok (.i2l, 1) := by decide +kernel
theorem dX10_paste_79 : decode cX10_paste 79 = .ok (.iload 5, 2) := by decide +kernel
theorem dX10_paste_81 : decode cX10_paste 81 = .ok (.i2l, 1) := by decide +kernel
theorem dX10_paste_82 : decode cX10_paste 82 = .ok (.ladd, 1) := by decide +kernel
theorem dX10_paste_83 : decode cX10_paste 83 = .ok (.aload_n 0, 1) := by decide +kernel
theorem dX10_paste_84 : decode cX10_paste 84 = .ok (.getfield 13, 3) := by decide +kernel
theorem dX10_paste_87 : decode cX10_paste 87 = .ok (.iload_n 1, 1) := by decide +kernel
theorem dX10_paste_88 : decode cX10_paste 88 = .ok (.iaload, 1) := by decide +kernel
theorem dX10_paste_89 : decode cX10_paste 89 = .ok (.i2l, 1) := by decide +kernel
theorem dX10_paste_90 : decode cX10_paste 90 = .ok (.lcmp, 1) := by decide +kernel
theorem dX10_paste_91 : decode cX10_paste 91 = .ok (.ifCond .gt 21, 3) := by decide +kernel
theorem dX10_paste_94 : decode cX10_paste 94 = .ok (.iload 4, 2) := by decide +kernel
theorem dX10_paste_96 : decode cX10_paste 96 = .ok (.i2l, 1) := by decide +kernel
theorem dX10_paste_97 : decode cX10_paste 97 = .ok (.iload 5, 2) := by decide +kernel
theorem dX10_paste_99 : decode cX10_paste 99 = .ok (.i2l, 1) := by decide +kernel
theorem dX10_paste_100 : decode cX10_paste 100 = .ok (.ladd, 1) := by decide +kernel
theorem dX10_paste_101 : decode cX10_paste 101 = .ok (.aload_n 0, 1) := by decide +kernel
theorem dX10_paste_102 : decode cX10_paste 102 = .ok (.getfield 13, 3) := by decide +kernel
theorem dX10_paste_105 : decode cX10_paste 105 = .ok (.iload_n 3, 1) := by decide +kernel
theorem dX10_paste_106 : decode cX10_paste 106 = .ok (.iaload, 1) := by decide +kernel
theorem dX10_paste_107 : decode cX10_paste 107 = .ok (.i2l, 1) := by decide +kernel
theorem dX10_paste_108 : decode cX10_paste 108 = .ok (.lcmp, 1) := by decide +kernel
theorem dX10_paste_109 : decode cX10_paste 109 = .ok (.ifCond .le 6, 3) := by decide +kernel
theorem dX10_paste_112 : decode cX10_paste 112 = .ok (.bipush (-7), 2) := by decide +kernel
theorem dX10_paste_114 : decode cX10_paste 114 = .ok (.ireturn, 1) := by decide +kernel
theorem dX10_paste_115 : decode cX10_paste 115 = .ok (.iconst 0, 1) := by decide +kernel
theorem dX10_paste_116 : decode cX10_paste 116 = .ok (.istore 6, 2) := by decide +kernel
theorem dX10_paste_118 : decode cX10_paste 118 = .ok (.iload 6, 2) := by decide +kernel
theorem dX10_paste_120 : decode cX10_paste 120 = .ok (.iload 5, 2) := by decide +kernel
theorem dX10_paste_122 : decode cX10_paste 122 = .ok (.if_icmp .ge 30, 3) := by decide +kernel
theorem dX10_paste_125 : decode cX10_paste 125 = .ok (.aload_n 0, 1) := by decide +kernel
theorem dX10_paste_126 : decode cX10_paste 126 = .ok (.getfield 20, 3) := by decide +kernel
theorem dX10_paste_129 : decode cX10_paste 129 = .ok (.iload 6, 2) := by decide +kernel
theorem dX10_paste_131 : decode cX10_paste 131 = .ok (.aload_n 0, 1) := by decide +kernel
theorem dX10_paste_132 : decode cX10_paste 132 = .ok (.getfield 16, 3) := by decide +kernel
theorem dX10_paste_135 : decode cX10_paste 135 = .ok (.bipush 60, 2) := by decide +kernel
theorem dX10_paste_137 : decode cX10_paste 137 = .ok (.iload_n 1, 1) := by decide +kernel
theorem dX10_paste_138 : decode cX10_paste 138 = .ok (.imul, 1) := by decide +kernel
theorem dX10_paste_139 : decode cX10_paste 139 = .ok (.iload_n 2, 1) := by decide +kernel
theorem dX10_paste_140 : decode cX10_paste 140 = .ok (.iadd, 1) := by decide +kernel
theorem dX10_paste_141 : decode cX10_paste 141 = .ok (.iload 6, 2) := by decide +kernel
theorem dX10_paste_143 : decode cX10_paste 143 = .ok (.iadd, 1) := by decide +kernel
theorem dX10_paste_144 : decode cX10_paste 144 = .ok (.laload, 1) := by decide +kernel
theorem dX10_paste_145 : decode cX10_paste 145 = .ok (.lastore, 1) := by decide +kernel
theorem dX10_paste_146 : decode cX10_paste 146 = .ok (.iinc 6 1, 3) := by decide +kernel
theorem dX10_paste_149 : decode cX10_paste 149 = .ok (.goto (-31), 3) := by decide +kernel
theorem dX10_paste_152 : decode cX10_paste 152 = .ok (.iconst 0, 1) := by decide +kernel
theorem dX10_paste_153 : decode cX10_paste 153 = .ok (.istore 6, 2) := by decide +kernel
theorem dX10_paste_155 : decode cX10_paste 155 = .ok (.iload 6, 2) := by decide +kernel
theorem dX10_paste_157 : decode cX10_paste 157 = .ok (.iload 5, 2) := by decide +kernel
theorem dX10_paste_159 : decode cX10_paste 159 = .ok (.if_icmp .ge 31, 3) := by decide +kernel
theorem dX10_paste_162 : decode cX10_paste 162 = .ok (.aload_n 0, 1) := by decide +kernel
theorem dX10_paste_163 : decode cX10_paste 163 = .ok (.getfield 16, 3) := by decide +kernel
theorem dX10_paste_166 : decode cX10_paste 166 = .ok (.bipush 60, 2) := by decide +kernel
theorem dX10_paste_168 : decode cX10_paste 168 = .ok (.iload_n 3, 1) := by decide +kernel
theorem dX10_paste_169 : decode cX10_paste 169 = .ok (.imul, 1) := by decide +kernel
theorem dX10_paste_170 : decode cX10_paste 170 = .ok (.iload 4, 2) := by decide +kernel
theorem dX10_paste_172 : decode cX10_paste 172 = .ok (.iadd, 1) := by decide +kernel
theorem dX10_paste_173 : decode cX10_paste 173 = .ok (.iload 6, 2) := by decide +kernel
theorem dX10_paste_175 : decode cX10_paste 175 = .ok (.iadd, 1) := by decide +kernel
theorem dX10_paste_176 : decode cX10_paste 176 = .ok (.aload_n 0, 1) := by decide +kernel
theorem dX10_paste_177 : decode cX10_paste 177 = .ok (.getfield 20, 3) := by decide +kernel
theorem dX10_paste_180 : decode cX10_paste 180 = .ok (.iload 6, 2) := by decide +kernel
theorem dX10_paste_182 : decode cX10_paste 182 = .ok (.laload, 1) := by decide +kernel
theorem dX10_paste_183 : decode cX10_paste 183 = .ok (.lastore, 1) := by decide +kernel
theorem dX10_paste_184 : decode cX10_paste 184 = .ok (.iinc 6 1, 3) := by decide +kernel
theorem dX10_paste_187 : decode cX10_paste 187 = .ok (.goto (-32), 3) := by decide +kernel
theorem dX10_paste_190 : decode cX10_paste 190 = .ok (.iconst 0, 1) := by decide +kernel
theorem dX10_paste_191 : decode cX10_paste 191 = .ok (.ireturn, 1) := by decide +kernel
theorem dX10_feed_0 : decode cX10_feed 0 = .ok (.aload_n 0, 1) := by decide +kernel
theorem dX10_feed_1 : decode cX10_feed 1 = .ok (.iconst 0, 1) := by decide +kernel
theorem dX10_feed_2 : decode cX10_feed 2 = .ok (.putfield 104, 3) := by decide +kernel
theorem dX10_feed_5 : decode cX10_feed 5 = .ok (.aload_n 0, 1) := by decide +kernel
theorem dX10_feed_6 : decode cX10_feed 6 = .ok (.getfield 121, 3) := by decide +kernel
theorem dX10_feed_9 : decode cX10_feed 9 = .ok (.bipush 20, 2) := by decide +kernel
theorem dX10_feed_11 : decode cX10_feed 11 = .ok (.iadd, 1) := by decide +kernel
theorem dX10_feed_12 : decode cX10_feed 12 = .ok (.sipush 1600, 3) := by decide +kernel
theorem dX10_feed_15 : decode cX10_feed 15 = .ok (.if_icmp .le 5, 3) := by decide +kernel
theorem dX10_feed_18 : decode cX10_feed 18 = .ok (.iconst (-1), 1) := by decide +kernel
theorem dX10_feed_19 : decode cX10_feed 19 = .ok (.ireturn, 1) := by decide +kernel
theorem dX10_feed_20 : decode cX10_feed 20 = .ok (.aload_n 0, 1) := by decide +kernel
theorem dX10_feed_21 : decode cX10_feed 21 = .ok (.iload_n 1, 1) := by decide +kernel
theorem dX10_feed_22 : decode cX10_feed 22 = .ok (.invokevirtual 124, 3) := by decide +kernel
theorem dX10_feed_25 : decode cX10_feed 25 = .ok (.aload_n 0, 1) := by decide +kernel
theorem dX10_feed_26 : decode cX10_feed 26 = .ok (.iload_n 2, 1) := by decide +kernel
theorem dX10_feed_27 : decode cX10_feed 27 = .ok (.invokevirtual 124, 3) := by decide +kernel
theorem dX10_feed_30 : decode cX10_feed 30 = .ok (.aload_n 0, 1) := by decide +kernel
theorem dX10_feed_31 : decode cX10_feed 31 = .ok (.iload_n 3, 1) := by decide +kernel
theorem dX10_feed_32 : decode cX10_feed 32 = .ok (.invokevirtual 124, 3) := by decide +kernel
theorem dX10_feed_35 : decode cX10_feed 35 = .ok (.aload_n 0, 1) := by decide +kernel
theorem dX10_feed_36 : decode cX10_feed 36 = .ok (.iload 4, 2) := by decide +kernel
theorem dX10_feed_38 : decode cX10_feed 38 = .ok (.invokevirtual 124, 3) := by decide +kernel
theorem dX10_feed_41 : decode cX10_feed 41 = .ok (.aload_n 0, 1) := by decide +kernel
theorem dX10_feed_42 : decode cX10_feed 42 = .ok (.iload 5, 2) := by decide +kernel
theorem dX10_feed_44 : decode cX10_feed 44 = .ok (.invokevirtual 124, 3) := by decide +kernel
theorem dX10_feed_47 : decode cX10_feed 47 = .ok (.aload_n 0, 1) := by decide +kernel
theorem dX10_feed_48 : decode cX10_feed 48 = .ok (.getfield 121, 3) := by decide +kernel
theorem dX10_feed_51 : decode cX10_feed 51 = .ok (.ireturn, 1) := by decide +kernel
theorem dX10_four_0 : decode cX10_four 0 = .ok (.bipush 24, 2) := by decide +kernel
theorem dX10_four_2 : decode cX10_four 2 = .ok (.istore_n 2, 1) := by decide +kernel
theorem dX10_four_3 : decode cX10_four 3 = .ok (.iload_n 2, 1) := by decide +kernel
theorem dX10_four_4 : decode cX10_four 4 = .ok (.ifCond .lt 32, 3) := by decide +kernel
theorem dX10_four_7 : decode cX10_four 7 = .ok (.aload_n 0, 1) := by decide +kernel
theorem dX10_four_8 : decode cX10_four 8 = .ok (.getfield 23, 3) := by decide +kernel
theorem dX10_four_11 : decode cX10_four 11 = .ok (.aload_n 0, 1) := by decide +kernel
theorem dX10_four_12 : decode cX10_four 12 = .ok (.getfield 121, 3) := by decide +kernel
theorem dX10_four_15 : decode cX10_four 15 = .ok (.iload_n 1, 1) := by decide +kernel
theorem dX10_four_16 : decode cX10_four 16 = .ok (.iload_n 2, 1) := by decide +kernel
theorem dX10_four_17 : decode cX10_four 17 = .ok (.ishr, 1) := by decide +kernel
theorem dX10_four_18 : decode cX10_four 18 = .ok (.i2b, 1) := by decide +kernel
theorem dX10_four_19 : decode cX10_four 19 = .ok (.bastore, 1) := by decide +kernel
theorem dX10_four_20 : decode cX10_four 20 = .ok (.aload_n 0, 1) := by decide +kernel
theorem dX10_four_21 : decode cX10_four 21 = .ok (.dup, 1) := by decide +kernel
theorem dX10_four_22 : decode cX10_four 22 = .ok (.getfield 121, 3) := by decide +kernel
theorem dX10_four_25 : decode cX10_four 25 = .ok (.iconst 1, 1) := by decide +kernel
theorem dX10_four_26 : decode cX10_four 26 = .ok (.iadd, 1) := by decide +kernel
theorem dX10_four_27 : decode cX10_four 27 = .ok (.putfield 121, 3) := by decide +kernel
theorem dX10_four_30 : decode cX10_four 30 = .ok (.iinc 2 (-8), 3) := by decide +kernel
theorem dX10_four_33 : decode cX10_four 33 = .ok (.goto (-30), 3) := by decide +kernel
theorem dX10_four_36 : decode cX10_four 36 = .ok (.return_, 1) := by decide +kernel
theorem dX10_end_0 : decode cX10_end 0 = .ok (.aload_n 0, 1) := by decide +kernel
theorem dX10_end_1 : decode cX10_end 1 = .ok (.iconst 0, 1) := by decide +kernel
theorem dX10_end_2 : decode cX10_end 2 = .ok (.putfield 104, 3) := by decide +kernel
theorem dX10_end_5 : decode cX10_end 5 = .ok (.iload_n 1, 1) := by decide +kernel
theorem dX10_end_6 : decode cX10_end 6 = .ok (.i2l, 1) := by decide +kernel
theorem dX10_end_7 : decode cX10_end 7 = .ok (.lconst 0, 1) := by decide +kernel
theorem dX10_end_8 : decode cX10_end 8 = .ok (.aload_n 0, 1) := by decide +kernel
theorem dX10_end_9 : decode cX10_end 9 = .ok (.getfield 121, 3) := by decide +kernel
theorem dX10_end_12 : decode cX10_end 12 = .ok (.i2l, 1) := by decide +kernel
theorem dX10_end_13 : decode cX10_end 13 = .ok (.invokestatic 109, 3) := by decide +kernel
theorem dX10_end_16 : decode cX10_end 16 = .ok (.ifCond .ne 5, 3) := by decide +kernel
theorem dX10_end_19 : decode cX10_end 19 = .ok (.iconst (-1), 1) := by decide +kernel
theorem dX10_end_20 : decode cX10_end 20 = .ok (.ireturn, 1) := by decide +kernel
theorem dX10_end_21 : decode cX10_end 21 = .ok (.aload_n 0, 1) := by decide +kernel
theorem dX10_end_22 : decode cX10_end 22 = .ok (.iload_n 1, 1) := by decide +kernel
theorem dX10_end_23 : decode cX10_end 23 = .ok (.putfield 121, 3) := by decide +kernel
theorem dX10_end_26 : decode cX10_end 26 = .ok (.iload_n 1, 1) := by decide +kernel
theorem dX10_end_27 : decode cX10_end 27 = .ok (.ireturn, 1) := by decide +kernel
theorem dX10_isByte_0 : decode cX10_isByte 0 = .ok (.iload_n 1, 1) := by decide +kernel
theorem dX10_isByte_1 : decode cX10_isByte 1 = .ok (.aload_n 0, 1) := by decide +kernel
theorem dX10_isByte_2 : decode cX10_isByte 2 = .ok (.getfield 121, 3) := by decide +kernel
theorem dX10_isByte_5 : decode cX10_isByte 5 = .ok (.if_icmp .ge 27, 3) := by decide +kernel
theorem dX10_isByte_8 : decode cX10_isByte 8 = .ok (.aload_n 0, 1) := by decide +kernel
theorem dX10_isByte_9 : decode cX10_isByte 9 = .ok (.getfield 23, 3) := by decide +kernel
theorem dX10_isByte_12 : decode cX10_isByte 12 = .ok (.iload_n 1, 1) := by decide +kernel
theorem dX10_isByte_13 : decode cX10_isByte 13 = .ok (.baload, 1) := by decide +kernel
theorem dX10_isByte_14 : decode cX10_isByte 14 = .ok (.iload_n 2, 1) := by decide +kernel
theorem dX10_isByte_15 : decode cX10_isByte 15 = .ok (.if_icmp .lt 17, 3) := by decide +kernel
theorem dX10_isByte_18 : decode cX10_isByte 18 = .ok (.aload_n 0, 1) := by decide +kernel
theorem dX10_isByte_19 : decode cX10_isByte 19 = .ok (.getfield 23, 3) := by decide +kernel
theorem dX10_isByte_22 : decode cX10_isByte 22 = .ok (.iload_n 1, 1) := by decide +kernel
theorem dX10_isByte_23 : decode cX10_isByte 23 = .ok (.baload, 1) := by decide +kernel
theorem dX10_isByte_24 : decode cX10_isByte 24 = .ok (.iload_n 3, 1) := by decide +kernel
theorem dX10_isByte_25 : decode cX10_isByte 25 = .ok (.if_icmp .gt 7, 3) := by decide +kernel
theorem dX10_isByte_28 : decode cX10_isByte 28 = .ok (.iconst 1, 1) := by decide +kernel
theorem dX10_isByte_29 : decode cX10_isByte 29 = .ok (.goto 4, 3) := by decide +kernel
theorem dX10_isByte_32 : decode cX10_isByte 32 = .ok (.iconst 0, 1) := by decide +kernel
theorem dX10_isByte_33 : decode cX10_isByte 33 = .ok (.ireturn, 1) := by decide +kernel
theorem dX10_next_0 : decode cX10_next 0 = .ok (.aload_n 0, 1) := by decide +kernel
theorem dX10_next_1 : decode cX10_next 1 = .ok (.aload_n 0, 1) := by decide +kernel
theorem dX10_next_2 : decode cX10_next 2 = .ok (.getfield 128, 3) := by decide +kernel
theorem dX10_next_5 : decode cX10_next 5 = .ok (.bipush 32, 2) := by decide +kernel
theorem dX10_next_7 : decode cX10_next 7 = .ok (.bipush 32, 2) := by decide +kernel
theorem dX10_next_9 : decode cX10_next 9 = .ok (.invokevirtual 131, 3) := by decide +kernel
theorem dX10_next_12 : decode cX10_next 12 = .ok (.ifCond .ne 18, 3) := by decide +kernel
theorem dX10_next_15 : decode cX10_next 15 = .ok (.aload_n 0, 1) := by decide +kernel
theorem dX10_next_16 : decode cX10_next 16 = .ok (.aload_n 0, 1) := by decide +kernel
theorem dX10_next_17 : decode cX10_next 17 = .ok (.getfield 128, 3) := by decide +kernel
theorem dX10_next_20 : decode cX10_next 20 = .ok (.bipush 10, 2) := by decide +kernel
theorem dX10_next_22 : decode cX10_next 22 = .ok (.bipush 10, 2) := by decide +kernel
theorem dX10_next_24 : decode cX10_next 24 = .ok (.invokevirtual 131, 3) := by decide +kernel
theorem dX10_next_27 : decode cX10_next 27 = .ok (.ifCond .eq 16, 3) := by decide +kernel
theorem dX10_next_30 : decode cX10_next 30 = .ok (.aload_n 0, 1) := by decide +kernel
theorem dX10_next_31 : decode cX10_next 31 = .ok (.dup, 1) := by decide +kernel
theorem dX10_next_32 : decode cX10_next 32 = .ok (.getfield 128, 3) := by decide +kernel
theorem dX10_next_35 : decode cX10_next 35 = .ok (.iconst 1, 1) := by decide +kernel
theorem dX10_next_36 : decode cX10_next 36 = .ok (.iadd, 1) := by decide +kernel
theorem dX10_next_37 : decode cX10_next 37 = .ok (.putfield 128, 3) := by decide +kernel
theorem dX10_next_40 : decode cX10_next 40 = .ok (.goto (-40), 3) := by decide +kernel
theorem dX10_next_43 : decode cX10_next 43 = .ok (.aload_n 0, 1) := by decide +kernel
theorem dX10_next_44 : decode cX10_next 44 = .ok (.aload_n 0, 1) := by decide +kernel
theorem dX10_next_45 : decode cX10_next 45 = .ok (.getfield 128, 3) := by decide +kernel
theorem dX10_next_48 : decode cX10_next 48 = .ok (.putfield 135, 3) := by decide +kernel
theorem dX10_next_51 : decode cX10_next 51 = .ok (.aload_n 0, 1) := by decide +kernel
theorem dX10_next_52 : decode cX10_next 52 = .ok (.iconst 0, 1) := by decide +kernel
theorem dX10_next_53 : decode cX10_next 53 = .ok (.putfield 138, 3) := by decide +kernel
theorem dX10_next_56 : decode cX10_next 56 = .ok (.aload_n 0, 1) := by decide +kernel
theorem dX10_next_57 : decode cX10_next 57 = .ok (.lconst 0, 1) := by decide +kernel
theorem dX10_next_58 : decode cX10_next 58 = .ok (.putfield 141, 3) := by decide +kernel
theorem dX10_next_61 : decode cX10_next 61 = .ok (.aload_n 0, 1) := by decide +kernel
theorem dX10_next_62 : decode cX10_next 62 = .ok (.getfield 128, 3) := by decide +kernel
theorem dX10_next_65 : decode cX10_next 65 = .ok (.aload_n 0, 1) := by decide +kernel
theorem dX10_next_66 : decode cX10_next 66 = .ok (.getfield 121, 3) := by decide +kernel
theorem dX10_next_69 : decode cX10_next 69 = .ok (.if_icmp .ne 11, 3) := by decide +kernel
theorem dX10_next_72 : decode cX10_next 72 = .ok (.aload_n 0, 1) := by decide +kernel
theorem dX10_next_73 : decode cX10_next 73 = .ok (.iconst 0, 1) := by decide +kernel
theorem dX10_next_74 : decode cX10_next 74 = .ok (.putfield 145, 3) := by decide +kernel
theorem dX10_next_77 : decode cX10_next 77 = .ok (.goto 230, 3) := by decide +kernel
theorem dX10_next_80 : decode cX10_next 80 = .ok (.aload_n 0, 1) := by decide +kernel
theorem dX10_next_81 : decode cX10_next 81 = .ok (.aload_n 0, 1) := by decide +kernel
theorem dX10_next_82 : decode cX10_next 82 = .ok (.getfield 128, 3) := by decide +kernel
theorem dX10_next_85 : decode cX10_next 85 = .ok (.bipush 97, 2) := by decide +kernel
theorem dX10_next_87 : decode cX10_next 87 = .ok (.bipush 122, 2) := by decide +kernel
theorem dX10_next_89 : decode cX10_next 89 = .ok (.invokevirtual 131, 3) := by decide +kernel
theorem dX10_next_92 : decode cX10_next 92 = .ok (.ifCond .eq 96, 3) := by decide +kernel
theorem dX10_next_95 : decode cX10_next 95 = .ok (.aload_n 0, 1) := by decide +kernel
theorem dX10_next_96 : decode cX10_next 96 = .ok (.iconst 1, 1) := by decide +kernel
theorem dX10_next_97 : decode cX10_next 97 = .ok (.putfield 145, 3) := by decide +kernel
theorem dX10_next_100 : decode cX10_next 100 = .ok (.iconst 0, 1) := by decide +kernel
theorem dX10_next_101 : decode cX10_next 101 = .ok (.istore_n 1, 1) := by decide +kernel
theorem dX10_next_102 : decode cX10_next 102 = .ok (.aload_n 0, 1) := by decide +kernel
theorem dX10_next_103 : decode cX10_next 103 = .ok (.aload_n 0, 1) := by decide +kernel
theorem dX10_next_104 : decode cX10_next 104 = .ok (.getfield 128, 3) := by decide +kernel
theorem dX10_next_107 : decode cX10_next 107 = .ok (.bipush 97, 2) := by decide +kernel
theorem dX10_next_109 : decode cX10_next 109 = .ok (.bipush 122, 2) := by decide +kernel
theorem dX10_next_111 : decode cX10_next 111 = .ok (.invokevirtual 131, 3) := by decide +kernel
theorem dX10_next_114 : decode cX10_next 114 = .ok (.ifCond .eq 71, 3) := by decide +kernel
theorem dX10_next_117 : decode cX10_next 117 = .ok (.aload_n 0, 1) := by decide +kernel
theorem dX10_next_118 : decode cX10_next 118 = .ok (.iload_n 1, 1) := by decide +kernel
theorem dX10_next_119 : decode cX10_next 119 = .ok (.bipush 11, 2) := by decide +kernel
theorem dX10_next_121 : decode cX10_next 121 = .ok (.if_icmp .le 9, 3) := by decide +kernel
theorem dX10_next_124 : decode cX10_next 124 = .ok (.ldc2_w 148, 3) := by decide +kernel
theorem dX10_next_127 : decode cX10_next 127 = .ok (.goto 26, 3) := by decide +kernel
theorem dX10_next_130 : decode cX10_next 130 = .ok (.ldc2_w 150, 3) := by decide +kernel
theorem dX10_next_133 : decode cX10_next 133 = .ok (.aload_n 0, 1) := by decide +kernel
theorem dX10_next_134 : decode cX10_next 134 = .ok (.getfield 141, 3) := by decide +kernel
theorem dX10_next_137 : decode cX10_next 137 = .ok (.lmul, 1) := by decide +kernel
theorem dX10_next_138 : decode cX10_next 138 = .ok (.aload_n 0, 1) := by decide +kernel
theorem dX10_next_139 : decode cX10_next 139 = .ok (.getfield 23, 3) := by decide +kernel
theorem dX10_next_142 : decode cX10_next 142 = .ok (.aload_n 0, 1) := by decide +kernel
theorem dX10_next_143 : decode cX10_next 143 = .ok (.getfield 128, 3) := by decide +kernel
theorem dX10_next_146 : decode cX10_next 146 = .ok (.baload, 1) := by decide +kernel
theorem dX10_next_147 : decode cX10_next 147 = .ok (.i2l, 1) := by decide +kernel
theorem dX10_next_148 : decode cX10_next 148 = .ok (.ladd, 1) := by decide +kernel
theorem dX10_next_149 : decode cX10_next 149 = .ok (.ldc2_w 152, 3) := by decide +kernel
theorem dX10_next_152 : decode cX10_next 152 = .ok (.lsub, 1) := by decide +kernel
theorem dX10_next_153 : decode cX10_next 153 = .ok (.putfield 141, 3) := by decide +kernel
theorem dX10_next_156 : decode cX10_next 156 = .ok (.iload_n 1, 1) := by decide +kernel
theorem dX10_next_157 : decode cX10_next 157 = .ok (.bipush 11, 2) := by decide +kernel
theorem dX10_next_159 : decode cX10_next 159 = .ok (.if_icmp .le 10, 3) := by decide +kernel
theorem dX10_next_162 : decode cX10_next 162 = .ok (.aload_n 0, 1) := by decide +kernel
theorem dX10_next_163 : decode cX10_next 163 = .ok (.ldc2_w 148, 3) := by decide +kernel
theorem dX10_next_166 : decode cX10_next 166 = .ok (.putfield 141, 3) := by decide +kernel
theorem dX10_next_169 : decode cX10_next 169 = .ok (.aload_n 0, 1) := by decide +kernel
theorem dX10_next_170 : decode cX10_next 170 = .ok (.dup, 1) := by decide +kernel
theorem dX10_next_171 : decode cX10_next 171 = .ok (.getfield 128, 3) := by decide +kernel
theorem dX10_next_174 : decode cX10_next 174 = .ok (.iconst 1, 1) := by decide +kernel
theorem dX10_next_175 : decode cX10_next 175 = .ok (.iadd, 1) := by decide +kernel
theorem dX10_next_176 : decode cX10_next 176 = .ok (.putfield 128, 3) := by decide +kernel
theorem dX10_next_179 : decode cX10_next 179 = .ok (.iinc 1 1, 3) := by decide +kernel
theorem dX10_next_182 : decode cX10_next 182 = .ok (.goto (-80), 3) := by decide +kernel
theorem dX10_next_185 : decode cX10_next 185 = .ok (.goto 122, 3) := by decide +kernel
theorem dX10_next_188 : decode cX10_next 188 = .ok (.aload_n 0, 1) := by decide +kernel
theorem dX10_next_189 : decode cX10_next 189 = .ok (.aload_n 0, 1) := by decide +kernel
theorem dX10_next_190 : decode cX10_next 190 = .ok (.getfield 128, 3) := by decide +kernel
theorem dX10_next_193 : decode cX10_next 193 = .ok (.bipush 48, 2) := by decide +kernel
theorem dX10_next_195 : decode cX10_next 195 = .ok (.bipush 57, 2) := by decide +kernel
theorem dX10_next_197 : decode cX10_next 197 = .ok (.invokevirtual 131, 3) := by decide +kernel
theorem dX10_next_200 : decode cX10_next 200 = .ok (.ifCond .eq 74, 3) := by decide +kernel
theorem dX10_next_203 : decode cX10_next 203 = .ok (.aload_n 0, 1) := by decide +kernel
theorem dX10_next_204 : decode cX10_next 204 = .ok (.iconst 2, 1) := by decide +kernel
theorem dX10_next_205 : decode cX10_next 205 = .ok (.putfield 145, 3) := by decide +kernel
theorem dX10_next_208 : decode cX10_next 208 = .ok (.aload_n 0, 1) := by decide +kernel
theorem dX10_next_209 : decode cX10_next 209 = .ok (.aload_n 0, 1) := by decide +kernel
theorem dX10_next_210 : decode cX10_next 210 = .ok (.getfield 128, 3) := by decide +kernel
theorem dX10_next_213 : decode cX10_next 213 = .ok (.bipush 48, 2) := by decide +kernel
theorem dX10_next_215 : decode cX10_next 215 = .ok (.bipush 57, 2) := by decide +kernel
theorem dX10_next_217 : decode cX10_next 217 = .ok (.invokevirtual 131, 3) := by decide +kernel
theorem dX10_next_220 : decode cX10_next 220 = .ok (.ifCond .eq 87, 3) := by decide +kernel
theorem dX10_next_223 : decode cX10_next 223 = .ok (.aload_n 0, 1) := by decide +kernel
theorem dX10_next_224 : decode cX10_next 224 = .ok (.aload_n 0, 1) := by decide +kernel
theorem dX10_next_225 : decode cX10_next 225 = .ok (.getfield 138, 3) := by decide +kernel
theorem dX10_next_228 : decode cX10_next 228 = .ok (.ldc 154, 2) := by decide +kernel
theorem dX10_next_230 : decode cX10_next 230 = .ok (.if_icmp .le 8, 3) := by decide +kernel
theorem dX10_next_233 : decode cX10_next 233 = .ok (.ldc 155, 2) := by decide +kernel
theorem dX10_next_235 : decode cX10_next 235 = .ok (.goto 23, 3) := by decide +kernel
theorem dX10_next_238 : decode cX10_next 238 = .ok (.bipush 10, 2) := by decide +kernel
theorem dX10_next_240 : decode cX10_next 240 = .ok (.aload_n 0, 1) := by decide +kernel
theorem dX10_next_241 : decode cX10_next 241 = .ok (.getfield 138, 3) := by decide +kernel
theorem dX10_next_244 : decode cX10_next 244 = .ok (.imul, 1) := by decide +kernel
theorem dX10_next_245 : decode cX10_next 245 = .ok (.aload_n 0, 1) := by decide +kernel
theorem dX10_next_246 : decode cX10_next 246 = .ok (.getfield 23, 3) := by decide +kernel
theorem dX10_next_249 : decode cX10_next 249 = .ok (.aload_n 0, 1) := by decide +kernel
theorem dX10_next_250 : decode cX10_next 250 = .ok (.getfield 128, 3) := by decide +kernel
theorem dX10_next_253 : decode cX10_next 253 = .ok (.baload, 1) := by decide +kernel
theorem dX10_next_254 : decode cX10_next 254 = .ok (.iadd, 1) := by decide +kernel
theorem dX10_next_255 : decode cX10_next 255 = .ok (.bipush 48, 2) := by decide +kernel
theorem dX10_next_257 : decode cX10_next 257 = .ok (.isub, 1) := by decide +kernel
theorem dX10_next_258 : decode cX10_next 258 = .ok (.putfield 138, 3) := by decide +kernel
theorem dX10_next_261 : decode cX10_next 261 = .ok (.aload_n 0, 1) := by decide +kernel
theorem dX10_next_262 : decode cX10_next 262 = .ok (.dup, 1) := by decide +kernel
theorem dX10_next_263 : decode cX10_next 263 = .ok (.getfield 128, 3) := by decide +kernel
theorem dX10_next_266 : decode cX10_next 266 = .ok (.iconst 1, 1) := by decide +kernel
theorem dX10_next_267 : decode cX10_next 267 = .ok (.iadd, 1) := by decide +kernel
theorem dX10_next_268 : decode cX10_next 268 = .ok (.putfield 128, 3) := by decide +kernel
theorem dX10_next_271 : decode cX10_next 271 = .ok (.goto (-63), 3) := by decide +kernel
theorem dX10_next_274 : decode cX10_next 274 = .ok (.aload_n 0, 1) := by decide +kernel
theorem dX10_next_275 : decode cX10_next 275 = .ok (.aload_n 0, 1) := by decide +kernel
theorem dX10_next_276 : decode cX10_next 276 = .ok (.getfield 23, 3) := by decide +kernel
theorem dX10_next_279 : decode cX10_next 279 = .ok (.aload_n 0, 1) := by decide +kernel
theorem dX10_next_280 : decode cX10_next 280 = .ok (.getfield 128, 3) := by decide +kernel
theorem dX10_next_283 : decode cX10_next 283 = .ok (.baload, 1) := by decide +kernel
theorem dX10_next_284 : decode cX10_next 284 = .ok (.bipush 59, 2) := by decide +kernel
theorem dX10_next_286 : decode cX10_next 286 = .ok (.if_icmp .ne 7, 3) := by decide +kernel
theorem dX10_next_289 : decode cX10_next 289 = .ok (.iconst 3, 1) := by decide +kernel
theorem dX10_next_290 : decode cX10_next 290 = .ok (.goto 4, 3) := by decide +kernel
theorem dX10_next_293 : decode cX10_next 293 = .ok (.iconst 4, 1) := by decide +kernel
theorem dX10_next_294 : decode cX10_next 294 = .ok (.putfield 145, 3) := by decide +kernel
theorem dX10_next_297 : decode cX10_next 297 = .ok (.aload_n 0, 1) := by decide +kernel
theorem dX10_next_298 : decode cX10_next 298 = .ok (.dup, 1) := by decide +kernel
theorem dX10_next_299 : decode cX10_next 299 = .ok (.getfield 128, 3) := by decide +kernel
theorem dX10_next_302 : decode cX10_next 302 = .ok (.iconst 1, 1) := by decide +kernel
theorem dX10_next_303 : decode cX10_next 303 = .ok (.iadd, 1) := by decide +kernel
theorem dX10_next_304 : decode cX10_next 304 = .ok (.putfield 128, 3) := by decide +kernel
theorem dX10_next_307 : decode cX10_next 307 = .ok (.return_, 1) := by decide +kernel
theorem dX10_isGood_0 : decode cX10_isGood 0 = .ok (.aload_n 0, 1) := by decide +kernel
theorem dX10_isGood_1 : decode cX10_isGood 1 = .ok (.getfield 156, 3) := by decide +kernel
theorem dX10_isGood_4 : decode cX10_isGood 4 = .ok (.ifCond .ne 7, 3) := by decide +kernel
theorem dX10_isGood_7 : decode cX10_isGood 7 = .ok (.iconst 1, 1) := by decide +kernel
theorem dX10_isGood_8 : decode cX10_isGood 8 = .ok (.goto 4, 3) := by decide +kernel
theorem dX10_isGood_11 : decode cX10_isGood 11 = .ok (.iconst 0, 1) := by decide +kernel
theorem dX10_isGood_12 : decode cX10_isGood 12 = .ok (.ireturn, 1) := by decide +kernel
theorem dX10_fails_0 : decode cX10_fails 0 = .ok (.aload_n 0, 1) := by decide +kernel
theorem dX10_fails_1 : decode cX10_fails 1 = .ok (.getfield 156, 3) := by decide +kernel
theorem dX10_fails_4 : decode cX10_fails 4 = .ok (.ifCond .eq 4, 3) := by decide +kernel
theorem dX10_fails_7 : decode cX10_fails 7 = .ok (.return_, 1) := by decide +kernel
theorem dX10_fails_8 : decode cX10_fails 8 = .ok (.aload_n 0, 1) := by decide +kernel
theorem dX10_fails_9 : decode cX10_fails 9 = .ok (.iload_n 1, 1) := by decide +kernel
theorem dX10_fails_10 : decode cX10_fails 10 = .ok (.putfield 156, 3) := by decide +kernel
theorem dX10_fails_13 : decode cX10_fails 13 = .ok (.aload_n 0, 1) := by decide +kernel
theorem dX10_fails_14 : decode cX10_fails 14 = .ok (.aload_n 0, 1) := by decide +kernel
theorem dX10_fails_15 : decode cX10_fails 15 = .ok (.getfield 135, 3) := by decide +kernel
theorem dX10_fails_18 : decode cX10_fails 18 = .ok (.putfield 159, 3) := by decide +kernel
theorem dX10_fails_21 : decode cX10_fails 21 = .ok (.return_, 1) := by decide +kernel
theorem dX10_is_0 : decode cX10_is 0 = .ok (.aload_n 0, 1) := by decide +kernel
theorem dX10_is_1 : decode cX10_is 1 = .ok (.getfield 156, 3) := by decide +kernel
theorem dX10_is_4 : decode cX10_is 4 = .ok (.ifCond .ne 24, 3) := by decide +kernel
theorem dX10_is_7 : decode cX10_is 7 = .ok (.aload_n 0, 1) := by decide +kernel
theorem dX10_is_8 : decode cX10_is 8 = .ok (.getfield 145, 3) := by decide +kernel
theorem dX10_is_11 : decode cX10_is 11 = .ok (.iconst 1, 1) := by decide +kernel
theorem dX10_is_12 : decode cX10_is 12 = .ok (.if_icmp .ne 16, 3) := by decide +kernel
theorem dX10_is_15 : decode cX10_is 15 = .ok (.aload_n 0, 1) := by decide +kernel
theorem dX10_is_16 : decode cX10_is 16 = .ok (.getfield 141, 3) := by decide +kernel
theorem dX10_is_19 : decode cX10_is 19 = .ok (.lload_n 1, 1) := by decide +kernel
theorem dX10_is_20 : decode cX10_is 20 = .ok (.lcmp, 1) := by decide +kernel
theorem dX10_is_21 : decode cX10_is 21 = .ok (.ifCond .ne 7, 3) := by decide +kernel
theorem dX10_is_24 : decode cX10_is 24 = .ok (.iconst 1, 1) := by decide +kernel
theorem dX10_is_25 : decode cX10_is 25 = .ok (.goto 4, 3) := by decide +kernel
theorem dX10_is_28 : decode cX10_is 28 = .ok (.iconst 0, 1) := by decide +kernel
theorem dX10_is_29 : decode cX10_is 29 = .ok (.ireturn, 1) := by decide +kernel
theorem dX10_takes_0 : decode cX10_takes 0 = .ok (.aload_n 0, 1) := by decide +kernel
theorem dX10_takes_1 : decode cX10_takes 1 = .ok (.lload_n 1, 1) := by decide +kernel
theorem dX10_takes_2 : decode cX10_takes 2 = .ok (.invokevirtual 162, 3) := by decide +kernel
theorem dX10_takes_5 : decode cX10_takes 5 = .ok (.ifCond .ne 5, 3) := by decide +kernel
theorem dX10_takes_8 : decode cX10_takes 8 = .ok (.iconst 0, 1) := by decide +kernel
theorem dX10_takes_9 : decode cX10_takes 9 = .ok (.ireturn, 1) := by decide +kernel
theorem dX10_takes_10 : decode cX10_takes 10 = .ok (.aload_n 0, 1) := by decide +kernel
theorem dX10_takes_11 : decode cX10_takes 11 = .ok (.invokevirtual 166, 3) := by decide +kernel
theorem dX10_takes_14 : decode cX10_takes 14 = .ok (.iconst 1, 1) := by decide +kernel
theorem dX10_takes_15 : decode cX10_takes 15 = .ok (.ireturn, 1) := by decide +kernel
theorem dX10_asks_0 : decode cX10_asks 0 = .ok (.aload_n 0, 1) := by decide +kernel
theorem dX10_asks_1 : decode cX10_asks 1 = .ok (.lload_n 1, 1) := by decide +kernel
theorem dX10_asks_2 : decode cX10_asks 2 = .ok (.invokevirtual 169, 3) := by decide +kernel
theorem dX10_asks_5 : decode cX10_asks 5 = .ok (.ifCond .ne 8, 3) := by decide +kernel
theorem dX10_asks_8 : decode cX10_asks 8 = .ok (.aload_n 0, 1) := by decide +kernel
theorem dX10_asks_9 : decode cX10_asks 9 = .ok (.iconst 1, 1) := by decide +kernel
theorem dX10_asks_10 : decode cX10_asks 10 = .ok (.invokevirtual 172, 3) := by decide +kernel
theorem dX10_asks_13 : decode cX10_asks 13 = .ok (.return_, 1) := by decide +kernel
theorem dX10_number_0 : decode cX10_number 0 = .ok (.aload_n 0, 1) := by decide +kernel
theorem dX10_number_1 : decode cX10_number 1 = .ok (.getfield 156, 3) := by decide +kernel
theorem dX10_number_4 : decode cX10_number 4 = .ok (.ifCond .eq 5, 3) := by decide +kernel
theorem dX10_number_7 : decode cX10_number 7 = .ok (.iload_n 1, 1) := by decide +kernel
theorem dX10_number_8 : decode cX10_number 8 = .ok (.ireturn, 1) := by decide +kernel
theorem dX10_number_9 : decode cX10_number 9 = .ok (.aload_n 0, 1) := by decide +kernel
theorem dX10_number_10 : decode cX10_number 10 = .ok (.getfield 145, 3) := by decide +kernel
theorem dX10_number_13 : decode cX10_number 13 = .ok (.iconst 2, 1) := by decide +kernel
theorem dX10_number_14 : decode cX10_number 14 = .ok (.if_icmp .eq 10, 3) := by decide +kernel
theorem dX10_number_17 : decode cX10_number 17 = .ok (.aload_n 0, 1) := by decide +kernel
theorem dX10_number_18 : decode cX10_number 18 = .ok (.iconst 1, 1) := by decide +kernel
theorem dX10_number_19 : decode cX10_number 19 = .ok (.invokevirtual 172, 3) := by decide +kernel
theorem dX10_number_22 : decode cX10_number 22 = .ok (.iload_n 1, 1) := by decide +kernel
theorem dX10_number_23 : decode cX10_number 23 = .ok (.ireturn, 1) := by decide +kernel
theorem dX10_number_24 : decode cX10_number 24 = .ok (.aload_n 0, 1) := by decide +kernel
theorem dX10_number_25 : decode cX10_number 25 = .ok (.getfield 138, 3) := by decide +kernel
theorem dX10_number_28 : decode cX10_number 28 = .ok (.i2l, 1) := by decide +kernel
theorem dX10_number_29 : decode cX10_number 29 = .ok (.iload_n 1, 1) := by decide +kernel
theorem dX10_number_30 : decode cX10_number 30 = .ok (.i2l, 1) := by decide +kernel
theorem dX10_number_31 : decode cX10_number 31 = .ok (.iload_n 2, 1) := by decide +kernel
theorem dX10_number_32 : decode cX10_number 32 = .ok (.i2l, 1) := by decide +kernel
theorem dX10_number_33 : decode cX10_number 33 = .ok (.invokestatic 109, 3) := by decide +kernel
theorem dX10_number_36 : decode cX10_number 36 = .ok (.ifCond .ne 10, 3) := by decide +kernel
theorem dX10_number_39 : decode cX10_number 39 = .ok (.aload_n 0, 1) := by decide +kernel
theorem dX10_number_40 : decode cX10_number 40 = .ok (.iconst 2, 1) := by decide +kernel
theorem dX10_number_41 : decode cX10_number 41 = .ok (.invokevirtual 172, 3) := by decide +kernel
theorem dX10_number_44 : decode cX10_number 44 = .ok (.iload_n 1, 1) := by decide +kernel
theorem dX10_number_45 : decode cX10_number 45 = .ok (.ireturn, 1) := by decide +kernel
theorem dX10_number_46 : decode cX10_number 46 = .ok (.aload_n 0, 1) := by decide +kernel
theorem dX10_number_47 : decode cX10_number 47 = .ok (.getfield 138, 3) := by decide +kernel
theorem dX10_number_50 : decode cX10_number 50 = .ok (.istore_n 3, 1) := by decide +kernel
theorem dX10_number_51 : decode cX10_number 51 = .ok (.aload_n 0, 1) := by decide +kernel
theorem dX10_number_52 : decode cX10_number 52 = .ok (.invokevirtual 166, 3) := by decide +kernel
theorem dX10_number_55 : decode cX10_number 55 = .ok (.iload_n 3, 1) := by decide +kernel
theorem dX10_number_56 : decode cX10_number 56 = .ok (.ireturn, 1) := by decide +kernel
theorem dX10_number__0 : decode cX10_number_ 0 = .ok (.aload_n 0, 1) := by decide +kernel
theorem dX10_number__1 : decode cX10_number_ 1 = .ok (.lload_n 1, 1) := by decide +kernel
theorem dX10_number__2 : decode cX10_number_ 2 = .ok (.invokevirtual 175, 3) := by decide +kernel
theorem dX10_number__5 : decode cX10_number_ 5 = .ok (.aload_n 0, 1) := by decide +kernel
theorem dX10_number__6 : decode cX10_number_ 6 = .ok (.iload_n 3, 1) := by decide +kernel
theorem dX10_number__7 : decode cX10_number_ 7 = .ok (.iload 4, 2) := by decide +kernel
theorem dX10_number__9 : decode cX10_number_ 9 = .ok (.invokevirtual 179, 3) := by decide +kernel
theorem dX10_number__12 : decode cX10_number_ 12 = .ok (.ireturn, 1) := by decide +kernel
theorem dX10_ends_0 : decode cX10_ends 0 = .ok (.aload_n 0, 1) := by decide +kernel
theorem dX10_ends_1 : decode cX10_ends 1 = .ok (.getfield 145, 3) := by decide +kernel
theorem dX10_ends_4 : decode cX10_ends 4 = .ok (.iconst 3, 1) := by decide +kernel
theorem dX10_ends_5 : decode cX10_ends 5 = .ok (.if_icmp .eq 8, 3) := by decide +kernel
theorem dX10_ends_8 : decode cX10_ends 8 = .ok (.aload_n 0, 1) := by decide +kernel
theorem dX10_ends_9 : decode cX10_ends 9 = .ok (.iconst 1, 1) := by decide +kernel
theorem dX10_ends_10 : decode cX10_ends 10 = .ok (.invokevirtual 172, 3) := by decide +kernel
theorem dX10_ends_13 : decode cX10_ends 13 = .ok (.aload_n 0, 1) := by decide +kernel
theorem dX10_ends_14 : decode cX10_ends 14 = .ok (.getfield 156, 3) := by decide +kernel
theorem dX10_ends_17 : decode cX10_ends 17 = .ok (.ifCond .ne 7, 3) := by decide +kernel
theorem dX10_ends_20 : decode cX10_ends 20 = .ok (.aload_n 0, 1) := by decide +kernel
theorem dX10_ends_21 : decode cX10_ends 21 = .ok (.invokevirtual 166, 3) := by decide +kernel
theorem dX10_ends_24 : decode cX10_ends 24 = .ok (.return_, 1) := by decide +kernel
theorem dX10_begins_0 : decode cX10_begins 0 = .ok (.aload_n 0, 1) := by decide +kernel
theorem dX10_begins_1 : decode cX10_begins 1 = .ok (.iconst 0, 1) := by decide +kernel
theorem dX10_begins_2 : decode cX10_begins 2 = .ok (.putfield 156, 3) := by decide +kernel
theorem dX10_begins_5 : decode cX10_begins 5 = .ok (.aload_n 0, 1) := by decide +kernel
theorem dX10_begins_6 : decode cX10_begins 6 = .ok (.iconst (-1), 1) := by decide +kernel
theorem dX10_begins_7 : decode cX10_begins 7 = .ok (.putfield 159, 3) := by decide +kernel
theorem dX10_begins_10 : decode cX10_begins 10 = .ok (.aload_n 0, 1) := by decide +kernel
theorem dX10_begins_11 : decode cX10_begins 11 = .ok (.iconst 0, 1) := by decide +kernel
theorem dX10_begins_12 : decode cX10_begins 12 = .ok (.putfield 128, 3) := by decide +kernel
theorem dX10_begins_15 : decode cX10_begins 15 = .ok (.aload_n 0, 1) := by decide +kernel
theorem dX10_begins_16 : decode cX10_begins 16 = .ok (.invokevirtual 166, 3) := by decide +kernel
theorem dX10_begins_19 : decode cX10_begins 19 = .ok (.return_, 1) := by decide +kernel
theorem dX10_isOver_0 : decode cX10_isOver 0 = .ok (.aload_n 0, 1) := by decide +kernel
theorem dX10_isOver_1 : decode cX10_isOver 1 = .ok (.iconst 0, 1) := by decide +kernel
theorem dX10_isOver_2 : decode cX10_isOver 2 = .ok (.putfield 121, 3) := by decide +kernel
theorem dX10_isOver_5 : decode cX10_isOver 5 = .ok (.aload_n 0, 1) := by decide +kernel
theorem dX10_isOver_6 : decode cX10_isOver 6 = .ok (.aload_n 0, 1) := by decide +kernel
theorem dX10_isOver_7 : decode cX10_isOver 7 = .ok (.getfield 156, 3) := by decide +kernel
theorem dX10_isOver_10 : decode cX10_isOver 10 = .ok (.putfield 183, 3) := by decide +kernel
theorem dX10_isOver_13 : decode cX10_isOver 13 = .ok (.aload_n 0, 1) := by decide +kernel
theorem dX10_isOver_14 : decode cX10_isOver 14 = .ok (.aload_n 0, 1) := by decide +kernel
theorem dX10_isOver_15 : decode cX10_isOver 15 = .ok (.getfield 156, 3) := by decide +kernel
theorem dX10_isOver_18 : decode cX10_isOver 18 = .ok (.ifCond .ne 7, 3) := by decide +kernel
theorem dX10_isOver_21 : decode cX10_isOver 21 = .ok (.iconst (-1), 1) := by decide +kernel
theorem dX10_isOver_22 : decode cX10_isOver 22 = .ok (.goto 7, 3) := by decide +kernel
theorem dX10_isOver_25 : decode cX10_isOver 25 = .ok (.aload_n 0, 1) := by decide +kernel
theorem dX10_isOver_26 : decode cX10_isOver 26 = .ok (.getfield 159, 3) := by decide +kernel
theorem dX10_isOver_29 : decode cX10_isOver 29 = .ok (.putfield 27, 3) := by decide +kernel
theorem dX10_isOver_32 : decode cX10_isOver 32 = .ok (.return_, 1) := by decide +kernel
theorem dX10_fault_0 : decode cX10_fault 0 = .ok (.aload_n 0, 1) := by decide +kernel
theorem dX10_fault_1 : decode cX10_fault 1 = .ok (.iconst 0, 1) := by decide +kernel
theorem dX10_fault_2 : decode cX10_fault 2 = .ok (.putfield 104, 3) := by decide +kernel
theorem dX10_fault_5 : decode cX10_fault 5 = .ok (.iload_n 1, 1) := by decide +kernel
theorem dX10_fault_6 : decode cX10_fault 6 = .ok (.ifCond .ne 10, 3) := by decide +kernel
theorem dX10_fault_9 : decode cX10_fault 9 = .ok (.aload_n 0, 1) := by decide +kernel
theorem dX10_fault_10 : decode cX10_fault 10 = .ok (.getfield 183, 3) := by decide +kernel
theorem dX10_fault_13 : decode cX10_fault 13 = .ok (.goto 16, 3) := by decide +kernel
theorem dX10_fault_16 : decode cX10_fault 16 = .ok (.iload_n 1, 1) := by decide +kernel
theorem dX10_fault_17 : decode cX10_fault 17 = .ok (.iconst 1, 1) := by decide +kernel
theorem dX10_fault_18 : decode cX10_fault 18 = .ok (.if_icmp .ne 10, 3) := by decide +kernel
theorem dX10_fault_21 : decode cX10_fault 21 = .ok (.aload_n 0, 1) := by decide +kernel
theorem dX10_fault_22 : decode cX10_fault 22 = .ok (.getfield 27, 3) := by decide +kernel
theorem dX10_fault_25 : decode cX10_fault 25 = .ok (.goto 4, 3) := by decide +kernel
theorem dX10_fault_28 : decode cX10_fault 28 = .ok (.iconst (-1), 1) := by decide +kernel
theorem dX10_fault_29 : decode cX10_fault 29 = .ok (.ireturn, 1) := by decide +kernel
theorem dX10_hasRead_0 : decode cX10_hasRead 0 = .ok (.aload_n 0, 1) := by decide +kernel
theorem dX10_hasRead_1 : decode cX10_hasRead 1 = .ok (.getfield 34, 3) := by decide +kernel
theorem dX10_hasRead_4 : decode cX10_hasRead 4 = .ok (.bipush 24, 2) := by decide +kernel
theorem dX10_hasRead_6 : decode cX10_hasRead 6 = .ok (.iload_n 1, 1) := by decide +kernel
theorem dX10_hasRead_7 : decode cX10_hasRead 7 = .ok (.iadd, 1) := by decide +kernel
theorem dX10_hasRead_8 : decode cX10_hasRead 8 = .ok (.iaload, 1) := by decide +kernel
theorem dX10_hasRead_9 : decode cX10_hasRead 9 = .ok (.ireturn, 1) := by decide +kernel
theorem dX10_lawLine_0 : decode cX10_lawLine 0 = .ok (.aload_n 0, 1) := by decide +kernel
theorem dX10_lawLine_1 : decode cX10_lawLine 1 = .ok (.ldc2_w 186, 3) := by decide +kernel
theorem dX10_lawLine_4 : decode cX10_lawLine 4 = .ok (.invokevirtual 162, 3) := by decide +kernel
theorem dX10_lawLine_7 : decode cX10_lawLine 7 = .ok (.ifCond .eq 7, 3) := by decide +kernel
theorem dX10_lawLine_10 : decode cX10_lawLine 10 = .ok (.iconst 0, 1) := by decide +kernel
theorem dX10_lawLine_11 : decode cX10_lawLine 11 = .ok (.goto 74, 3) := by decide +kernel
theorem dX10_lawLine_14 : decode cX10_lawLine 14 = .ok (.aload_n 0, 1) := by decide +kernel
theorem dX10_lawLine_15 : decode cX10_lawLine 15 = .ok (.ldc2_w 188, 3) := by decide +kernel
theorem dX10_lawLine_18 : decode cX10_lawLine 18 = .ok (.invokevirtual 162, 3) := by decide +kernel
theorem dX10_lawLine_21 : decode cX10_lawLine 21 = .ok (.ifCond .eq 7, 3) := by decide +kernel
theorem dX10_lawLine_24 : decode cX10_lawLine 24 = .ok (.iconst 1, 1) := by decide +kernel
theorem dX10_lawLine_25 : decode cX10_lawLine 25 = .ok (.goto 60, 3) := by decide +kernel
theorem dX10_lawLine_28 : decode cX10_lawLine 28 = .ok (.aload_n 0, 1) := by decide +kernel
theorem dX10_lawLine_29 : decode cX10_lawLine 29 = .ok (.ldc2_w 190, 3) := by decide +kernel
theorem dX10_lawLine_32 : decode cX10_lawLine 32 = .ok (.invokevirtual 162, 3) := by decide +kernel
theorem dX10_lawLine_35 : decode cX10_lawLine 35 = .ok (.ifCond .eq 7, 3) := by decide +kernel
theorem dX10_lawLine_38 : decode cX10_lawLine 38 = .ok (.iconst 2, 1) := by decide +kernel
theorem dX10_lawLine_39 : decode cX10_lawLine 39 = .ok (.goto 46, 3) := by decide +kernel
theorem dX10_lawLine_42 : decode cX10_lawLine 42 = .ok (.aload_n 0, 1) := by decide +kernel
theorem dX10_lawLine_43 : decode cX10_lawLine 43 = .ok (.ldc2_w 192, 3) := by decide +kernel
theorem dX10_lawLine_46 : decode cX10_lawLine 46 = .ok (.invokevirtual 162, 3) := by decide +kernel
theorem dX10_lawLine_49 : decode cX10_lawLine 49 = .ok (.ifCond .eq 7, 3) := by decide +kernel
theorem dX10_lawLine_52 : decode cX10_lawLine 52 = .ok (.iconst 3, 1) := by decide +kernel
theorem dX10_lawLine_53 : decode cX10_lawLine 53 = .ok (.goto 32, 3) := by decide +kernel
theorem dX10_lawLine_56 : decode cX10_lawLine 56 = .ok (.aload_n 0, 1) := by decide +kernel
theorem dX10_lawLine_57 : decode cX10_lawLine 57 = .ok (.ldc2_w 194, 3) := by decide +kernel
theorem dX10_lawLine_60 : decode cX10_lawLine 60 = .ok (.invokevirtual 162, 3) := by decide +kernel
theorem dX10_lawLine_63 : decode cX10_lawLine 63 = .ok (.ifCond .eq 7, 3) := by decide +kernel
theorem dX10_lawLine_66 : decode cX10_lawLine 66 = .ok (.iconst 4, 1) := by decide +kernel
theorem dX10_lawLine_67 : decode cX10_lawLine 67 = .ok (.goto 18, 3) := by decide +kernel
theorem dX10_lawLine_70 : decode cX10_lawLine 70 = .ok (.aload_n 0, 1) := by decide +kernel
theorem dX10_lawLine_71 : decode cX10_lawLine 71 = .ok (.ldc2_w 196, 3) := by decide +kernel
theorem dX10_lawLine_74 : decode cX10_lawLine 74 = .ok (.invokevirtual 162, 3) := by decide +kernel
theorem dX10_lawLine_77 : decode cX10_lawLine 77 = .ok (.ifCond .eq 7, 3) := by decide +kernel
theorem dX10_lawLine_80 : decode cX10_lawLine 80 = .ok (.iconst 5, 1) := by decide +kernel
theorem dX10_lawLine_81 : decode cX10_lawLine 81 = .ok (.goto 4, 3) := by decide +kernel
theorem dX10_lawLine_84 : decode cX10_lawLine 84 = .ok (.iconst (-1), 1) := by decide +kernel
theorem dX10_lawLine_85 : decode cX10_lawLine 85 = .ok (.istore_n 1, 1) := by decide +kernel
theorem dX10_lawLine_86 : decode cX10_lawLine 86 = .ok (.iload_n 1, 1) := by decide +kernel
theorem dX10_lawLine_87 : decode cX10_lawLine 87 = .ok (.iconst (-1), 1) := by decide +kernel
theorem dX10_lawLine_88 : decode cX10_lawLine 88 = .ok (.if_icmp .ne 8, 3) := by decide +kernel
theorem dX10_lawLine_91 : decode cX10_lawLine 91 = .ok (.aload_n 0, 1) := by decide +kernel
theorem dX10_lawLine_92 : decode cX10_lawLine 92 = .ok (.iconst 1, 1) := by decide +kernel
theorem dX10_lawLine_93 : decode cX10_lawLine 93 = .ok (.invokevirtual 172, 3) := by decide +kernel
theorem dX10_lawLine_96 : decode cX10_lawLine 96 = .ok (.aload_n 0, 1) := by decide +kernel
theorem dX10_lawLine_97 : decode cX10_lawLine 97 = .ok (.getfield 156, 3) := by decide +kernel
theorem dX10_lawLine_100 : decode cX10_lawLine 100 = .ok (.ifCond .eq 4, 3) := by decide +kernel
theorem dX10_lawLine_103 : decode cX10_lawLine 103 = .ok (.return_, 1) := by decide +kernel
theorem dX10_lawLine_104 : decode cX10_lawLine 104 = .ok (.aload_n 0, 1) := by decide +kernel
theorem dX10_lawLine_105 : decode cX10_lawLine 105 = .ok (.invokevirtual 166, 3) := by decide +kernel
theorem dX10_lawLine_108 : decode cX10_lawLine 108 = .ok (.aload_n 0, 1) := by decide +kernel
theorem dX10_lawLine_109 : decode cX10_lawLine 109 = .ok (.getfield 37, 3) := by decide +kernel
theorem dX10_lawLine_112 : decode cX10_lawLine 112 = .ok (.bipush 20, 2) := by decide +kernel
theorem dX10_lawLine_114 : decode cX10_lawLine 114 = .ok (.iload_n 1, 1) := by decide +kernel
theorem dX10_lawLine_115 : decode cX10_lawLine 115 = .ok (.iconst 2, 1) := by decide +kernel
theorem dX10_lawLine_116 : decode cX10_lawLine 116 = .ok (.idiv, 1) := by decide +kernel
theorem dX10_lawLine_117 : decode cX10_lawLine 117 = .ok (.iadd, 1) := by decide +kernel
theorem dX10_lawLine_118 : decode cX10_lawLine 118 = .ok (.iload_n 1, 1) := by decide +kernel
theorem dX10_lawLine_119 : decode cX10_lawLine 119 = .ok (.iconst 2, 1) := by decide +kernel
theorem dX10_lawLine_120 : decode cX10_lawLine 120 = .ok (.irem, 1) := by decide +kernel
theorem dX10_lawLine_121 : decode cX10_lawLine 121 = .ok (.iastore, 1) := by decide +kernel
theorem dX10_lawLine_122 : decode cX10_lawLine 122 = .ok (.return_, 1) := by decide +kernel
theorem dX10_driveLine_0 : decode cX10_driveLine 0 = .ok (.bipush 8, 2) := by decide +kernel
theorem dX10_driveLine_2 : decode cX10_driveLine 2 = .ok (.bipush 52, 2) := by decide +kernel
theorem dX10_driveLine_4 : decode cX10_driveLine 4 = .ok (.aload_n 0, 1) := by decide +kernel
theorem dX10_driveLine_5 : decode cX10_driveLine 5 = .ok (.iconst 3, 1) := by decide +kernel
theorem dX10_driveLine_6 : decode cX10_driveLine 6 = .ok (.invokevirtual 198, 3) := by decide +kernel
theorem dX10_driveLine_9 : decode cX10_driveLine 9 = .ok (.iadd, 1) := by decide +kernel
theorem dX10_driveLine_10 : decode cX10_driveLine 10 = .ok (.imul, 1) := by decide +kernel
theorem dX10_driveLine_11 : decode cX10_driveLine 11 = .ok (.istore_n 1, 1) := by decide +kernel
theorem dX10_driveLine_12 : decode cX10_driveLine 12 = .ok (.aload_n 0, 1) := by decide +kernel
theorem dX10_driveLine_13 : decode cX10_driveLine 13 = .ok (.iconst 0, 1) := by decide +kernel
theorem dX10_driveLine_14 : decode cX10_driveLine 14 = .ok (.aload_n 0, 1) := by decide +kernel
theorem dX10_driveLine_15 : decode cX10_driveLine 15 = .ok (.iconst 2, 1) := by decide +kernel
theorem dX10_driveLine_16 : decode cX10_driveLine 16 = .ok (.invokevirtual 198, 3) := by decide +kernel
theorem dX10_driveLine_19 : decode cX10_driveLine 19 = .ok (.iconst 1, 1) := by decide +kernel
theorem dX10_driveLine_20 : decode cX10_driveLine 20 = .ok (.isub, 1) := by decide +kernel
theorem dX10_driveLine_21 : decode cX10_driveLine 21 = .ok (.invokevirtual 179, 3) := by decide +kernel
theorem dX10_driveLine_24 : decode cX10_driveLine 24 = .ok (.istore_n 2, 1) := by decide +kernel
theorem dX10_driveLine_25 : decode cX10_driveLine 25 = .ok (.aload_n 0, 1) := by decide +kernel
theorem dX10_driveLine_26 : decode cX10_driveLine 26 = .ok (.getfield 46, 3) := by decide +kernel
theorem dX10_driveLine_29 : decode cX10_driveLine 29 = .ok (.iload_n 1, 1) := by decide +kernel
theorem dX10_driveLine_30 : decode cX10_driveLine 30 = .ok (.iload_n 2, 1) := by decide +kernel
theorem dX10_driveLine_31 : decode cX10_driveLine 31 = .ok (.iastore, 1) := by decide +kernel
theorem dX10_driveLine_32 : decode cX10_driveLine 32 = .ok (.aload_n 0, 1) := by decide +kernel
theorem dX10_driveLine_33 : decode cX10_driveLine 33 = .ok (.getfield 46, 3) := by decide +kernel
theorem dX10_driveLine_36 : decode cX10_driveLine 36 = .ok (.iload_n 1, 1) := by decide +kernel
theorem dX10_driveLine_37 : decode cX10_driveLine 37 = .ok (.iconst 1, 1) := by decide +kernel
theorem dX10_driveLine_38 : decode cX10_driveLine 38 = .ok (.iadd, 1) := by decide +kernel
theorem dX10_driveLine_39 : decode cX10_driveLine 39 = .ok (.aload_n 0, 1) := by decide +kernel
theorem dX10_driveLine_40 : decode cX10_driveLine 40 = .ok (.ldc2_w 202, 3) := by decide +kernel
theorem dX10_driveLine_43 : decode cX10_driveLine 43 = .ok (.iconst 0, 1) := by decide +kernel
theorem dX10_driveLine_44 : decode cX10_driveLine 44 = .ok (.aload_n 0, 1) := by decide +kernel
theorem dX10_driveLine_45 : decode cX10_driveLine 45 = .ok (.iconst 0, 1) := by decide +kernel
theorem dX10_driveLine_46 : decode cX10_driveLine 46 = .ok (.invokevirtual 198, 3) := by decide +kernel
theorem dX10_driveLine_49 : decode cX10_driveLine 49 = .ok (.iconst 1, 1) := by decide +kernel
theorem dX10_driveLine_50 : decode cX10_driveLine 50 = .ok (.isub, 1) := by decide +kernel
theorem dX10_driveLine_51 : decode cX10_driveLine 51 = .ok (.invokevirtual 204, 3) := by decide +kernel
theorem dX10_driveLine_54 : decode cX10_driveLine 54 = .ok (.iastore, 1) := by decide +kernel
theorem dX10_driveLine_55 : decode cX10_driveLine 55 = .ok (.aload_n 0, 1) := by decide +kernel
theorem dX10_driveLine_56 : decode cX10_driveLine 56 = .ok (.getfield 46, 3) := by decide +kernel
theorem dX10_driveLine_59 : decode cX10_driveLine 59 = .ok (.iload_n 1, 1) := by decide +kernel
theorem dX10_driveLine_60 : decode cX10_driveLine 60 = .ok (.iconst 2, 1) := by decide +kernel
theorem dX10_driveLine_61 : decode cX10_driveLine 61 = .ok (.iadd, 1) := by decide +kernel
theorem dX10_driveLine_62 : decode cX10_driveLine 62 = .ok (.aload_n 0, 1) := by decide +kernel
theorem dX10_driveLine_63 : decode cX10_driveLine 63 = .ok (.ldc2_w 207, 3) := by decide +kernel
theorem dX10_driveLine_66 : decode cX10_driveLine 66 = .ok (.iconst 0, 1) := by decide +kernel
theorem dX10_driveLine_67 : decode cX10_driveLine 67 = .ok (.aload_n 0, 1) := by decide +kernel
theorem dX10_driveLine_68 : decode cX10_driveLine 68 = .ok (.iconst 1, 1) := by decide +kernel
theorem dX10_driveLine_69 : decode cX10_driveLine 69 = .ok (.invokevirtual 198, 3) := by decide +kernel
theorem dX10_driveLine_72 : decode cX10_driveLine 72 = .ok (.iconst 1, 1) := by decide +kernel
theorem dX10_driveLine_73 : decode cX10_driveLine 73 = .ok (.isub, 1) := by decide +kernel
theorem dX10_driveLine_74 : decode cX10_driveLine 74 = .ok (.invokevirtual 204, 3) := by decide +kernel
theorem dX10_driveLine_77 : decode cX10_driveLine 77 = .ok (.iastore, 1) := by decide +kernel
theorem dX10_driveLine_78 : decode cX10_driveLine 78 = .ok (.aload_n 0, 1) := by decide +kernel
theorem dX10_driveLine_79 : decode cX10_driveLine 79 = .ok (.getfield 46, 3) := by decide +kernel
theorem dX10_driveLine_82 : decode cX10_driveLine 82 = .ok (.iload_n 1, 1) := by decide +kernel
theorem dX10_driveLine_83 : decode cX10_driveLine 83 = .ok (.iconst 3, 1) := by decide +kernel
theorem dX10_driveLine_84 : decode cX10_driveLine 84 = .ok (.iadd, 1) := by decide +kernel
theorem dX10_driveLine_85 : decode cX10_driveLine 85 = .ok (.aload_n 0, 1) := by decide +kernel
theorem dX10_driveLine_86 : decode cX10_driveLine 86 = .ok (.ldc2_w 209, 3) := by decide +kernel
theorem dX10_driveLine_89 : decode cX10_driveLine 89 = .ok (.iconst 0, 1) := by decide +kernel
theorem dX10_driveLine_90 : decode cX10_driveLine 90 = .ok (.bipush 23, 2) := by decide +kernel
theorem dX10_driveLine_92 : decode cX10_driveLine 92 = .ok (.invokevirtual 204, 3) := by decide +kernel
theorem dX10_driveLine_95 : decode cX10_driveLine 95 = .ok (.iastore, 1) := by decide +kernel
theorem dX10_driveLine_96 : decode cX10_driveLine 96 = .ok (.aload_n 0, 1) := by decide +kernel
theorem dX10_driveLine_97 : decode cX10_driveLine 97 = .ok (.getfield 46, 3) := by decide +kernel
theorem dX10_driveLine_100 : decode cX10_driveLine 100 = .ok (.iload_n 1, 1) := by decide +kernel
theorem dX10_driveLine_101 : decode cX10_driveLine 101 = .ok (.iconst 4, 1) := by decide +kernel
theorem dX10_driveLine_102 : decode cX10_driveLine 102 = .ok (.iadd, 1) := by decide +kernel
theorem dX10_driveLine_103 : decode cX10_driveLine 103 = .ok (.aload_n 0, 1) := by decide +kernel
theorem dX10_driveLine_104 : decode cX10_driveLine 104 = .ok (.ldc2_w 211, 3) := by decide +kernel
theorem dX10_driveLine_107 : decode cX10_driveLine 107 = .ok (.iconst 1, 1) := by decide +kernel
theorem dX10_driveLine_108 : decode cX10_driveLine 108 = .ok (.bipush 99, 2) := by decide +kernel
theorem dX10_driveLine_110 : decode cX10_driveLine 110 = .ok (.invokevirtual 204, 3) := by decide +kernel
theorem dX10_driveLine_113 : decode cX10_driveLine 113 = .ok (.iastore, 1) := by decide +kernel
theorem dX10_driveLine_114 : decode cX10_driveLine 114 = .ok (.aload_n 0, 1) := by decide +kernel
theorem dX10_driveLine_115 : decode cX10_driveLine 115 = .ok (.getfield 46, 3) := by decide +kernel
theorem dX10_driveLine_118 : decode cX10_driveLine 118 = .ok (.iload_n 1, 1) := by decide +kernel
theorem dX10_driveLine_119 : decode cX10_driveLine 119 = .ok (.iconst 5, 1) := by decide +kernel
theorem dX10_driveLine_120 : decode cX10_driveLine 120 = .ok (.iadd, 1) := by decide +kernel
theorem dX10_driveLine_121 : decode cX10_driveLine 121 = .ok (.aload_n 0, 1) := by decide +kernel
theorem dX10_driveLine_122 : decode cX10_driveLine 122 = .ok (.ldc2_w 213, 3) := by decide +kernel
theorem dX10_driveLine_125 : decode cX10_driveLine 125 = .ok (.invokevirtual 169, 3) := by decide +kernel
theorem dX10_driveLine_128 : decode cX10_driveLine 128 = .ok (.ifCond .eq 13, 3) := by decide +kernel
theorem dX10_driveLine_131 : decode cX10_driveLine 131 = .ok (.aload_n 0, 1) := by decide +kernel
theorem dX10_driveLine_132 : decode cX10_driveLine 132 = .ok (.iconst 0, 1) := by decide +kernel
theorem dX10_driveLine_133 : decode cX10_driveLine 133 = .ok (.bipush 99, 2) := by decide +kernel
theorem dX10_driveLine_135 : decode cX10_driveLine 135 = .ok (.invokevirtual 179, 3) := by decide +kernel
theorem dX10_driveLine_138 : decode cX10_driveLine 138 = .ok (.goto 4, 3) := by decide +kernel
theorem dX10_driveLine_141 : decode cX10_driveLine 141 = .ok (.iconst 0, 1) := by decide +kernel
theorem dX10_driveLine_142 : decode cX10_driveLine 142 = .ok (.iastore, 1) := by decide +kernel
theorem dX10_driveLine_143 : decode cX10_driveLine 143 = .ok (.aload_n 0, 1) := by decide +kernel
theorem dX10_driveLine_144 : decode cX10_driveLine 144 = .ok (.getfield 46, 3) := by decide +kernel
theorem dX10_driveLine_147 : decode cX10_driveLine 147 = .ok (.iload_n 1, 1) := by decide +kernel
theorem dX10_driveLine_148 : decode cX10_driveLine 148 = .ok (.bipush 6, 2) := by decide +kernel
theorem dX10_driveLine_150 : decode cX10_driveLine 150 = .ok (.iadd, 1) := by decide +kernel
theorem dX10_driveLine_151 : decode cX10_driveLine 151 = .ok (.iload_n 2, 1) := by decide +kernel
theorem dX10_driveLine_152 : decode cX10_driveLine 152 = .ok (.iastore, 1) := by decide +kernel
theorem dX10_driveLine_153 : decode cX10_driveLine 153 = .ok (.aload_n 0, 1) := by decide +kernel
theorem dX10_driveLine_154 : decode cX10_driveLine 154 = .ok (.ldc2_w 215, 3) := by decide +kernel
theorem dX10_driveLine_157 : decode cX10_driveLine 157 = .ok (.invokevirtual 169, 3) := by decide +kernel
theorem dX10_driveLine_160 : decode cX10_driveLine 160 = .ok (.ifCond .eq 52, 3) := by decide +kernel
theorem dX10_driveLine_163 : decode cX10_driveLine 163 = .ok (.aload_n 0, 1) := by decide +kernel
theorem dX10_driveLine_164 : decode cX10_driveLine 164 = .ok (.getfield 156, 3) := by decide +kernel
theorem dX10_driveLine_167 : decode cX10_driveLine 167 = .ok (.ifCond .ne 24, 3) := by decide +kernel
theorem dX10_driveLine_170 : decode cX10_driveLine 170 = .ok (.aload_n 0, 1) := by decide +kernel
theorem dX10_driveLine_171 : decode cX10_driveLine 171 = .ok (.getfield 145, 3) := by decide +kernel
theorem dX10_driveLine_174 : decode cX10_driveLine 174 = .ok (.iconst 2, 1) := by decide +kernel
theorem dX10_driveLine_175 : decode cX10_driveLine 175 = .ok (.if_icmp .ne 16, 3) := by decide +kernel
theorem dX10_driveLine_178 : decode cX10_driveLine 178 = .ok (.aload_n 0, 1) := by decide +kernel
theorem dX10_driveLine_179 : decode cX10_driveLine 179 = .ok (.getfield 138, 3) := by decide +kernel
theorem dX10_driveLine_182 : decode cX10_driveLine 182 = .ok (.iload_n 2, 1) := by decide +kernel
theorem dX10_driveLine_183 : decode cX10_driveLine 183 = .ok (.if_icmp .ne 8, 3) := by decide +kernel
theorem dX10_driveLine_186 : decode cX10_driveLine 186 = .ok (.aload_n 0, 1) := by decide +kernel
theorem dX10_driveLine_187 : decode cX10_driveLine 187 = .ok (.iconst 2, 1) := by decide +kernel
theorem dX10_driveLine_188 : decode cX10_driveLine 188 = .ok (.invokevirtual 172, 3) := by decide +kernel
theorem dX10_driveLine_191 : decode cX10_driveLine 191 = .ok (.aload_n 0, 1) := by decide +kernel
theorem dX10_driveLine_192 : decode cX10_driveLine 192 = .ok (.getfield 46, 3) := by decide +kernel
theorem dX10_driveLine_195 : decode cX10_driveLine 195 = .ok (.iload_n 1, 1) := by decide +kernel
theorem dX10_driveLine_196 : decode cX10_driveLine 196 = .ok (.bipush 6, 2) := by decide +kernel
theorem dX10_driveLine_198 : decode cX10_driveLine 198 = .ok (.iadd, 1) := by decide +kernel
theorem dX10_driveLine_199 : decode cX10_driveLine 199 = .ok (.aload_n 0, 1) := by decide +kernel
theorem dX10_driveLine_200 : decode cX10_driveLine 200 = .ok (.iconst 0, 1) := by decide +kernel
theorem dX10_driveLine_201 : decode cX10_driveLine 201 = .ok (.aload_n 0, 1) := by decide +kernel
theorem dX10_driveLine_202 : decode cX10_driveLine 202 = .ok (.iconst 2, 1) := by decide +kernel
theorem dX10_driveLine_203 : decode cX10_driveLine 203 = .ok (.invokevirtual 198, 3) := by decide +kernel
theorem dX10_driveLine_206 : decode cX10_driveLine 206 = .ok (.iconst 1, 1) := by decide +kernel
theorem dX10_driveLine_207 : decode cX10_driveLine 207 = .ok (.isub, 1) := by decide +kernel
theorem dX10_driveLine_208 : decode cX10_driveLine 208 = .ok (.invokevirtual 179, 3) := by decide +kernel
theorem dX10_driveLine_211 : decode cX10_driveLine 211 = .ok (.iastore, 1) := by decide +kernel
theorem dX10_driveLine_212 : decode cX10_driveLine 212 = .ok (.aload_n 0, 1) := by decide +kernel
theorem dX10_driveLine_213 : decode cX10_driveLine 213 = .ok (.getfield 46, 3) := by decide +kernel
theorem dX10_driveLine_216 : decode cX10_driveLine 216 = .ok (.iload_n 1, 1) := by decide +kernel
theorem dX10_driveLine_217 : decode cX10_driveLine 217 = .ok (.bipush 7, 2) := by decide +kernel
theorem dX10_driveLine_219 : decode cX10_driveLine 219 = .ok (.iadd, 1) := by decide +kernel
theorem dX10_driveLine_220 : decode cX10_driveLine 220 = .ok (.aload_n 0, 1) := by decide +kernel
theorem dX10_driveLine_221 : decode cX10_driveLine 221 = .ok (.ldc2_w 217, 3) := by decide +kernel
theorem dX10_driveLine_224 : decode cX10_driveLine 224 = .ok (.invokevirtual 169, 3) := by decide +kernel
theorem dX10_driveLine_227 : decode cX10_driveLine 227 = .ok (.ifCond .eq 7, 3) := by decide +kernel
theorem dX10_driveLine_230 : decode cX10_driveLine 230 = .ok (.iconst 1, 1) := by decide +kernel
theorem dX10_driveLine_231 : decode cX10_driveLine 231 = .ok (.goto 4, 3) := by decide +kernel
theorem dX10_driveLine_234 : decode cX10_driveLine 234 = .ok (.iconst 0, 1) := by decide +kernel
theorem dX10_driveLine_235 : decode cX10_driveLine 235 = .ok (.iastore, 1) := by decide +kernel
theorem dX10_driveLine_236 : decode cX10_driveLine 236 = .ok (.aload_n 0, 1) := by decide +kernel
theorem dX10_driveLine_237 : decode cX10_driveLine 237 = .ok (.getfield 34, 3) := by decide +kernel
theorem dX10_driveLine_240 : decode cX10_driveLine 240 = .ok (.bipush 27, 2) := by decide +kernel
theorem dX10_driveLine_242 : decode cX10_driveLine 242 = .ok (.dup2, 1) := by decide +kernel
theorem dX10_driveLine_243 : decode cX10_driveLine 243 = .ok (.iaload, 1) := by decide +kernel
theorem dX10_driveLine_244 : decode cX10_driveLine 244 = .ok (.iconst 1, 1) := by decide +kernel
theorem dX10_driveLine_245 : decode cX10_driveLine 245 = .ok (.iadd, 1) := by decide +kernel
theorem dX10_driveLine_246 : decode cX10_driveLine 246 = .ok (.iastore, 1) := by decide +kernel
theorem dX10_driveLine_247 : decode cX10_driveLine 247 = .ok (.return_, 1) := by decide +kernel
theorem dX10_line_0 : decode cX10_line 0 = .ok (.aload_n 0, 1) := by decide +kernel
theorem dX10_line_1 : decode cX10_line 1 = .ok (.ldc2_w 219, 3) := by decide +kernel
theorem dX10_line_4 : decode cX10_line 4 = .ok (.invokevirtual 162, 3) := by decide +kernel
theorem dX10_line_7 : decode cX10_line 7 = .ok (.istore_n 1, 1) := by decide +kernel
theorem dX10_line_8 : decode cX10_line 8 = .ok (.aload_n 0, 1) := by decide +kernel
theorem dX10_line_9 : decode cX10_line 9 = .ok (.ldc2_w 221, 3) := by decide +kernel
theorem dX10_line_12 : decode cX10_line 12 = .ok (.invokevirtual 162, 3) := by decide +kernel
theorem dX10_line_15 : decode cX10_line 15 = .ok (.istore_n 2, 1) := by decide +kernel
theorem dX10_line_16 : decode cX10_line 16 = .ok (.aload_n 0, 1) := by decide +kernel
theorem dX10_line_17 : decode cX10_line 17 = .ok (.ldc2_w 223, 3) := by decide +kernel
theorem dX10_line_20 : decode cX10_line 20 = .ok (.invokevirtual 162, 3) := by decide +kernel
theorem dX10_line_23 : decode cX10_line 23 = .ok (.istore_n 3, 1) := by decide +kernel
theorem dX10_line_24 : decode cX10_line 24 = .ok (.iload_n 3, 1) := by decide +kernel
theorem dX10_line_25 : decode cX10_line 25 = .ok (.ifCond .eq 23, 3) := by decide +kernel
theorem dX10_line_28 : decode cX10_line 28 = .ok (.aload_n 0, 1) := by decide +kernel
theorem dX10_line_29 : decode cX10_line 29 = .ok (.getfield 225, 3) := by decide +kernel
theorem dX10_line_32 : decode cX10_line 32 = .ok (.ifCond .ne 11, 3) := by decide +kernel
theorem dX10_line_35 : decode cX10_line 35 = .ok (.aload_n 0, 1) := by decide +kernel
theorem dX10_line_36 : decode cX10_line 36 = .ok (.iconst 3, 1) := by decide +kernel
theorem dX10_line_37 : decode cX10_line 37 = .ok (.invokevirtual 198, 3) := by decide +kernel
theorem dX10_line_40 : decode cX10_line 40 = .ok (.ifCond .le 8, 3) := by decide +kernel
theorem dX10_line_43 : decode cX10_line 43 = .ok (.aload_n 0, 1) := by decide +kernel
theorem dX10_line_44 : decode cX10_line 44 = .ok (.iconst 2, 1) := by decide +kernel
theorem dX10_line_45 : decode cX10_line 45 = .ok (.invokevirtual 172, 3) := by decide +kernel
theorem dX10_line_48 : decode cX10_line 48 = .ok (.iload_n 1, 1) := by decide +kernel
theorem dX10_line_49 : decode cX10_line 49 = .ok (.ifCond .eq 13, 3) := by decide +kernel
theorem dX10_line_52 : decode cX10_line 52 = .ok (.aload_n 0, 1) := by decide +kernel
theorem dX10_line_53 : decode cX10_line 53 = .ok (.iconst 3, 1) := by decide +kernel
theorem dX10_line_54 : decode cX10_line 54 = .ok (.invokevirtual 198, 3) := by decide +kernel
theorem dX10_line_57 : decode cX10_line 57 = .ok (.bipush 12, 2) := by decide +kernel
theorem dX10_line_59 : decode cX10_line 59 = .ok (.if_icmp .eq 17, 3) := by decide +kernel
theorem dX10_line_62 : decode cX10_line 62 = .ok (.iload_n 2, 1) := by decide +kernel
theorem dX10_line_63 : decode cX10_line 63 = .ok (.ifCond .eq 18, 3) := by decide +kernel
theorem dX10_line_66 : decode cX10_line 66 = .ok (.aload_n 0, 1) := by decide +kernel
theorem dX10_line_67 : decode cX10_line 67 = .ok (.iconst 4, 1) := by decide +kernel
theorem dX10_line_68 : decode cX10_line 68 = .ok (.invokevirtual 198, 3) := by decide +kernel
theorem dX10_line_71 : decode cX10_line 71 = .ok (.bipush 8, 2) := by decide +kernel
theorem dX10_line_73 : decode cX10_line 73 = .ok (.if_icmp .ne 8, 3) := by decide +kernel
theorem dX10_line_76 : decode cX10_line 76 = .ok (.aload_n 0, 1) := by decide +kernel
theorem dX10_line_77 : decode cX10_line 77 = .ok (.iconst 3, 1) := by decide +kernel
theorem dX10_line_78 : decode cX10_line 78 = .ok (.invokevirtual 172, 3) := by decide +kernel
theorem dX10_line_81 : decode cX10_line 81 = .ok (.aload_n 0, 1) := by decide +kernel
theorem dX10_line_82 : decode cX10_line 82 = .ok (.getfield 156, 3) := by decide +kernel
theorem dX10_line_85 : decode cX10_line 85 = .ok (.ifCond .eq 4, 3) := by decide +kernel
theorem dX10_line_88 : decode cX10_line 88 = .ok (.return_, 1) := by decide +kernel
theorem dX10_line_89 : decode cX10_line 89 = .ok (.iload_n 1, 1) := by decide +kernel
theorem dX10_line_90 : decode cX10_line 90 = .ok (.ifCond .eq 14, 3) := by decide +kernel
theorem dX10_line_93 : decode cX10_line 93 = .ok (.aload_n 0, 1) := by decide +kernel
theorem dX10_line_94 : decode cX10_line 94 = .ok (.invokevirtual 166, 3) := by decide +kernel
theorem dX10_line_97 : decode cX10_line 97 = .ok (.aload_n 0, 1) := by decide +kernel
theorem dX10_line_98 : decode cX10_line 98 = .ok (.invokevirtual 229, 3) := by decide +kernel
theorem dX10_line_101 : decode cX10_line 101 = .ok (.goto 234, 3) := by decide +kernel
theorem dX10_line_104 : decode cX10_line 104 = .ok (.iload_n 2, 1) := by decide +kernel
theorem dX10_line_105 : decode cX10_line 105 = .ok (.ifCond .eq 90, 3) := by decide +kernel
theorem dX10_line_108 : decode cX10_line 108 = .ok (.aload_n 0, 1) := by decide +kernel
theorem dX10_line_109 : decode cX10_line 109 = .ok (.invokevirtual 166, 3) := by decide +kernel
theorem dX10_line_112 : decode cX10_line 112 = .ok (.aload_n 0, 1) := by decide +kernel
theorem dX10_line_113 : decode cX10_line 113 = .ok (.iconst 0, 1) := by decide +kernel
theorem dX10_line_114 : decode cX10_line 114 = .ok (.aload_n 0, 1) := by decide +kernel
theorem dX10_line_115 : decode cX10_line 115 = .ok (.iconst 0, 1) := by decide +kernel
theorem dX10_line_116 : decode cX10_line 116 = .ok (.invokevirtual 198, 3) := by decide +kernel
theorem dX10_line_119 : decode cX10_line 119 = .ok (.iconst 1, 1) := by decide +kernel
theorem dX10_line_120 : decode cX10_line 120 = .ok (.isub, 1) := by decide +kernel
theorem dX10_line_121 : decode cX10_line 121 = .ok (.invokevirtual 179, 3) := by decide +kernel
theorem dX10_line_124 : decode cX10_line 124 = .ok (.istore 4, 2) := by decide +kernel
theorem dX10_line_126 : decode cX10_line 126 = .ok (.aload_n 0, 1) := by decide +kernel
theorem dX10_line_127 : decode cX10_line 127 = .ok (.ldc2_w 207, 3) := by decide +kernel
theorem dX10_line_130 : decode cX10_line 130 = .ok (.iconst 0, 1) := by decide +kernel
theorem dX10_line_131 : decode cX10_line 131 = .ok (.aload_n 0, 1) := by decide +kernel
theorem dX10_line_132 : decode cX10_line 132 = .ok (.iconst 1, 1) := by decide +kernel
theorem dX10_line_133 : decode cX10_line 133 = .ok (.invokevirtual 198, 3) := by decide +kernel
theorem dX10_line_136 : decode cX10_line 136 = .ok (.iconst 1, 1) := by decide +kernel
theorem dX10_line_137 : decode cX10_line 137 = .ok (.isub, 1) := by decide +kernel
theorem dX10_line_138 : decode cX10_line 138 = .ok (.invokevirtual 204, 3) := by decide +kernel
theorem dX10_line_141 : decode cX10_line 141 = .ok (.istore 5, 2) := by decide +kernel
theorem dX10_line_143 : decode cX10_line 143 = .ok (.aload_n 0, 1) := by decide +kernel
theorem dX10_line_144 : decode cX10_line 144 = .ok (.ldc2_w 232, 3) := by decide +kernel
theorem dX10_line_147 : decode cX10_line 147 = .ok (.iconst 2, 1) := by decide +kernel
theorem dX10_line_148 : decode cX10_line 148 = .ok (.bipush 9, 2) := by decide +kernel
theorem dX10_line_150 : decode cX10_line 150 = .ok (.invokevirtual 204, 3) := by decide +kernel
theorem dX10_line_153 : decode cX10_line 153 = .ok (.istore 6, 2) := by decide +kernel
theorem dX10_line_155 : decode cX10_line 155 = .ok (.aload_n 0, 1) := by decide +kernel
theorem dX10_line_156 : decode cX10_line 156 = .ok (.invokevirtual 234, 3) := by decide +kernel
theorem dX10_line_159 : decode cX10_line 159 = .ok (.ifCond .eq 22, 3) := by decide +kernel
theorem dX10_line_162 : decode cX10_line 162 = .ok (.aload_n 0, 1) := by decide +kernel
theorem dX10_line_163 : decode cX10_line 163 = .ok (.getfield 43, 3) := by decide +kernel
theorem dX10_line_166 : decode cX10_line 166 = .ok (.sipush 144, 3) := by decide +kernel
theorem dX10_line_169 : decode cX10_line 169 = .ok (.bipush 9, 2) := by decide +kernel
theorem dX10_line_171 : decode cX10_line 171 = .ok (.iload 4, 2) := by decide +kernel
theorem dX10_line_173 : decode cX10_line 173 = .ok (.imul, 1) := by decide +kernel
theorem dX10_line_174 : decode cX10_line 174 = .ok (.iadd, 1) := by decide +kernel
theorem dX10_line_175 : decode cX10_line 175 = .ok (.iload 5, 2) := by decide +kernel
theorem dX10_line_177 : decode cX10_line 177 = .ok (.iadd, 1) := by decide +kernel
theorem dX10_line_178 : decode cX10_line 178 = .ok (.iload 6, 2) := by decide +kernel
theorem dX10_line_180 : decode cX10_line 180 = .ok (.iastore, 1) := by decide +kernel
theorem dX10_line_181 : decode cX10_line 181 = .ok (.aload_n 0, 1) := by decide +kernel
theorem dX10_line_182 : decode cX10_line 182 = .ok (.getfield 34, 3) := by decide +kernel
theorem dX10_line_185 : decode cX10_line 185 = .ok (.bipush 28, 2) := by decide +kernel
theorem dX10_line_187 : decode cX10_line 187 = .ok (.dup2, 1) := by decide +kernel
theorem dX10_line_188 : decode cX10_line 188 = .ok (.iaload, 1) := by decide +kernel
theorem dX10_line_189 : decode cX10_line 189 = .ok (.iconst 1, 1) := by decide +kernel
theorem dX10_line_190 : decode cX10_line 190 = .ok (.iadd, 1) := by decide +kernel
theorem dX10_line_191 : decode cX10_line 191 = .ok (.iastore, 1) := by decide +kernel
theorem dX10_line_192 : decode cX10_line 192 = .ok (.goto 143, 3) := by decide +kernel
theorem dX10_line_195 : decode cX10_line 195 = .ok (.iload_n 3, 1) := by decide +kernel
theorem dX10_line_196 : decode cX10_line 196 = .ok (.ifCond .eq 28, 3) := by decide +kernel
theorem dX10_line_199 : decode cX10_line 199 = .ok (.aload_n 0, 1) := by decide +kernel
theorem dX10_line_200 : decode cX10_line 200 = .ok (.invokevirtual 166, 3) := by decide +kernel
theorem dX10_line_203 : decode cX10_line 203 = .ok (.aload_n 0, 1) := by decide +kernel
theorem dX10_line_204 : decode cX10_line 204 = .ok (.iconst 1, 1) := by decide +kernel
theorem dX10_line_205 : decode cX10_line 205 = .ok (.putfield 225, 3) := by decide +kernel
theorem dX10_line_208 : decode cX10_line 208 = .ok (.aload_n 0, 1) := by decide +kernel
theorem dX10_line_209 : decode cX10_line 209 = .ok (.getfield 34, 3) := by decide +kernel
theorem dX10_line_212 : decode cX10_line 212 = .ok (.bipush 26, 2) := by decide +kernel
theorem dX10_line_214 : decode cX10_line 214 = .ok (.aload_n 0, 1) := by decide +kernel
theorem dX10_line_215 : decode cX10_line 215 = .ok (.iconst 1, 1) := by decide +kernel
theorem dX10_line_216 : decode cX10_line 216 = .ok (.iconst 5, 1) := by decide +kernel
theorem dX10_line_217 : decode cX10_line 217 = .ok (.invokevirtual 179, 3) := by decide +kernel
theorem dX10_line_220 : decode cX10_line 220 = .ok (.iastore, 1) := by decide +kernel
theorem dX10_line_221 : decode cX10_line 221 = .ok (.goto 114, 3) := by decide +kernel
theorem dX10_line_224 : decode cX10_line 224 = .ok (.aload_n 0, 1) := by decide +kernel
theorem dX10_line_225 : decode cX10_line 225 = .ok (.ldc2_w 238, 3) := by decide +kernel
theorem dX10_line_228 : decode cX10_line 228 = .ok (.invokevirtual 169, 3) := by decide +kernel
theorem dX10_line_231 : decode cX10_line 231 = .ok (.ifCond .eq 10, 3) := by decide +kernel
theorem dX10_line_234 : decode cX10_line 234 = .ok (.aload_n 0, 1) := by decide +kernel
theorem dX10_line_235 : decode cX10_line 235 = .ok (.invokevirtual 240, 3) := by decide +kernel
theorem dX10_line_238 : decode cX10_line 238 = .ok (.goto 97, 3) := by decide +kernel
theorem dX10_line_241 : decode cX10_line 241 = .ok (.aload_n 0, 1) := by decide +kernel
theorem dX10_line_242 : decode cX10_line 242 = .ok (.ldc2_w 243, 3) := by decide +kernel
theorem dX10_line_245 : decode cX10_line 245 = .ok (.invokevirtual 169, 3) := by decide +kernel
theorem dX10_line_248 : decode cX10_line 248 = .ok (.ifCond .eq 58, 3) := by decide +kernel
theorem dX10_line_251 : decode cX10_line 251 = .ok (.aload_n 0, 1) := by decide +kernel
theorem dX10_line_252 : decode cX10_line 252 = .ok (.iconst 0, 1) := by decide +kernel
theorem dX10_line_253 : decode cX10_line 253 = .ok (.aload_n 0, 1) := by decide +kernel
theorem dX10_line_254 : decode cX10_line 254 = .ok (.iconst 0, 1) := by decide +kernel
theorem dX10_line_255 : decode cX10_line 255 = .ok (.invokevirtual 198, 3) := by decide +kernel
theorem dX10_line_258 : decode cX10_line 258 = .ok (.iconst 1, 1) := by decide +kernel
theorem dX10_line_259 : decode cX10_line 259 = .ok (.isub, 1) := by decide +kernel
theorem dX10_line_260 : decode cX10_line 260 = .ok (.invokevirtual 179, 3) := by decide +kernel
theorem dX10_line_263 : decode cX10_line 263 = .ok (.istore 4, 2) := by decide +kernel
theorem dX10_line_265 : decode cX10_line 265 = .ok (.aload_n 0, 1) := by decide +kernel
theorem dX10_line_266 : decode cX10_line 266 = .ok (.ldc2_w 245, 3) := by decide +kernel
theorem dX10_line_269 : decode cX10_line 269 = .ok (.iconst 0, 1) := by decide +kernel
theorem dX10_line_270 : decode cX10_line 270 = .ok (.aload_n 0, 1) := by decide +kernel
theorem dX10_line_271 : decode cX10_line 271 = .ok (.getfield 37, 3) := by decide +kernel
theorem dX10_line_274 : decode cX10_line 274 = .ok (.bipush 23, 2) := by decide +kernel
theorem dX10_line_276 : decode cX10_line 276 = .ok (.iaload, 1) := by decide +kernel
theorem dX10_line_277 : decode cX10_line 277 = .ok (.iconst 1, 1) := by decide +kernel
theorem dX10_line_278 : decode cX10_line 278 = .ok (.isub, 1) := by decide +kernel
theorem dX10_line_279 : decode cX10_line 279 = .ok (.invokevirtual 204, 3) := by decide +kernel
theorem dX10_line_282 : decode cX10_line 282 = .ok (.istore 5, 2) := by decide +kernel
theorem dX10_line_284 : decode cX10_line 284 = .ok (.aload_n 0, 1) := by decide +kernel
theorem dX10_line_285 : decode cX10_line 285 = .ok (.invokevirtual 234, 3) := by decide +kernel
theorem dX10_line_288 : decode cX10_line 288 = .ok (.ifCond .eq 15, 3) := by decide +kernel
theorem dX10_line_291 : decode cX10_line 291 = .ok (.aload_n 0, 1) := by decide +kernel
theorem dX10_line_292 : decode cX10_line 292 = .ok (.getfield 40, 3) := by decide +kernel
theorem dX10_line_295 : decode cX10_line 295 = .ok (.bipush 16, 2) := by decide +kernel
theorem dX10_line_297 : decode cX10_line 297 = .ok (.iload 4, 2) := by decide +kernel
theorem dX10_line_299 : decode cX10_line 299 = .ok (.iadd, 1) := by decide +kernel
theorem dX10_line_300 : decode cX10_line 300 = .ok (.iload 5, 2) := by decide +kernel
theorem dX10_line_302 : decode cX10_line 302 = .ok (.iastore, 1) := by decide +kernel
theorem dX10_line_303 : decode cX10_line 303 = .ok (.goto 32, 3) := by decide +kernel
theorem dX10_line_306 : decode cX10_line 306 = .ok (.aload_n 0, 1) := by decide +kernel
theorem dX10_line_307 : decode cX10_line 307 = .ok (.ldc2_w 213, 3) := by decide +kernel
theorem dX10_line_310 : decode cX10_line 310 = .ok (.invokevirtual 175, 3) := by decide +kernel
theorem dX10_line_313 : decode cX10_line 313 = .ok (.aload_n 0, 1) := by decide +kernel
theorem dX10_line_314 : decode cX10_line 314 = .ok (.getfield 34, 3) := by decide +kernel
theorem dX10_line_317 : decode cX10_line 317 = .ok (.bipush 29, 2) := by decide +kernel
theorem dX10_line_319 : decode cX10_line 319 = .ok (.aload_n 0, 1) := by decide +kernel
theorem dX10_line_320 : decode cX10_line 320 = .ok (.ldc2_w 247, 3) := by decide +kernel
theorem dX10_line_323 : decode cX10_line 323 = .ok (.iconst 0, 1) := by decide +kernel
theorem dX10_line_324 : decode cX10_line 324 = .ok (.aload_n 0, 1) := by decide +kernel
theorem dX10_line_325 : decode cX10_line 325 = .ok (.iconst 1, 1) := by decide +kernel
theorem dX10_line_326 : decode cX10_line 326 = .ok (.invokevirtual 198, 3) := by decide +kernel
theorem dX10_line_329 : decode cX10_line 329 = .ok (.iconst 1, 1) := by decide +kernel
theorem dX10_line_330 : decode cX10_line 330 = .ok (.isub, 1) := by decide +kernel
theorem dX10_line_331 : decode cX10_line 331 = .ok (.invokevirtual 204, 3) := by decide +kernel
theorem dX10_line_334 : decode cX10_line 334 = .ok (.iastore, 1) := by decide +kernel
theorem dX10_line_335 : decode cX10_line 335 = .ok (.return_, 1) := by decide +kernel
theorem dX10_clears_0 : decode cX10_clears 0 = .ok (.aload_n 0, 1) := by decide +kernel
theorem dX10_clears_1 : decode cX10_clears 1 = .ok (.getfield 31, 3) := by decide +kernel
theorem dX10_clears_4 : decode cX10_clears 4 = .ok (.iconst 4, 1) := by decide +kernel
theorem dX10_clears_5 : decode cX10_clears 5 = .ok (.iconst 0, 1) := by decide +kernel
theorem dX10_clears_6 : decode cX10_clears 6 = .ok (.iastore, 1) := by decide +kernel
theorem dX10_clears_7 : decode cX10_clears 7 = .ok (.iconst 0, 1) := by decide +kernel
theorem dX10_clears_8 : decode cX10_clears 8 = .ok (.istore_n 1, 1) := by decide +kernel
theorem dX10_clears_9 : decode cX10_clears 9 = .ok (.iload_n 1, 1) := by decide +kernel
theorem dX10_clears_10 : decode cX10_clears 10 = .ok (.bipush 6, 2) := by decide +kernel
theorem dX10_clears_12 : decode cX10_clears 12 = .ok (.if_icmp .ge 28, 3) := by decide +kernel
theorem dX10_clears_15 : decode cX10_clears 15 = .ok (.aload_n 0, 1) := by decide +kernel
theorem dX10_clears_16 : decode cX10_clears 16 = .ok (.getfield 34, 3) := by decide +kernel
theorem dX10_clears_19 : decode cX10_clears 19 = .ok (.bipush 24, 2) := by decide +kernel
theorem dX10_clears_21 : decode cX10_clears 21 = .ok (.iload_n 1, 1) := by decide +kernel
theorem dX10_clears_22 : decode cX10_clears 22 = .ok (.iadd, 1) := by decide +kernel
theorem dX10_clears_23 : decode cX10_clears 23 = .ok (.iload_n 1, 1) := by decide +kernel
theorem dX10_clears_24 : decode cX10_clears 24 = .ok (.iconst 2, 1) := by decide +kernel
theorem dX10_clears_25 : decode cX10_clears 25 = .ok (.if_icmp .ne 7, 3) := by decide +kernel
theorem dX10_clears_28 : decode cX10_clears 28 = .ok (.iconst 1, 1) := by decide +kernel
theorem dX10_clears_29 : decode cX10_clears 29 = .ok (.goto 4, 3) := by decide +kernel
theorem dX10_clears_32 : decode cX10_clears 32 = .ok (.iconst 0, 1) := by decide +kernel
theorem dX10_clears_33 : decode cX10_clears 33 = .ok (.iastore, 1) := by decide +kernel
theorem dX10_clears_34 : decode cX10_clears 34 = .ok (.iinc 1 1, 3) := by decide +kernel
theorem dX10_clears_37 : decode cX10_clears 37 = .ok (.goto (-28), 3) := by decide +kernel
theorem dX10_clears_40 : decode cX10_clears 40 = .ok (.iconst 0, 1) := by decide +kernel
theorem dX10_clears_41 : decode cX10_clears 41 = .ok (.istore_n 1, 1) := by decide +kernel
theorem dX10_clears_42 : decode cX10_clears 42 = .ok (.iload_n 1, 1) := by decide +kernel
theorem dX10_clears_43 : decode cX10_clears 43 = .ok (.iconst 5, 1) := by decide +kernel
theorem dX10_clears_44 : decode cX10_clears 44 = .ok (.if_icmp .ge 19, 3) := by decide +kernel
theorem dX10_clears_47 : decode cX10_clears 47 = .ok (.aload_n 0, 1) := by decide +kernel
theorem dX10_clears_48 : decode cX10_clears 48 = .ok (.getfield 37, 3) := by decide +kernel
theorem dX10_clears_51 : decode cX10_clears 51 = .ok (.bipush 20, 2) := by decide +kernel
theorem dX10_clears_53 : decode cX10_clears 53 = .ok (.iload_n 1, 1) := by decide +kernel
theorem dX10_clears_54 : decode cX10_clears 54 = .ok (.iadd, 1) := by decide +kernel
theorem dX10_clears_55 : decode cX10_clears 55 = .ok (.iconst 0, 1) := by decide +kernel
theorem dX10_clears_56 : decode cX10_clears 56 = .ok (.iastore, 1) := by decide +kernel
theorem dX10_clears_57 : decode cX10_clears 57 = .ok (.iinc 1 1, 3) := by decide +kernel
theorem dX10_clears_60 : decode cX10_clears 60 = .ok (.goto (-18), 3) := by decide +kernel
theorem dX10_clears_63 : decode cX10_clears 63 = .ok (.iconst 0, 1) := by decide +kernel
theorem dX10_clears_64 : decode cX10_clears 64 = .ok (.istore_n 1, 1) := by decide +kernel
theorem dX10_clears_65 : decode cX10_clears 65 = .ok (.iload_n 1, 1) := by decide +kernel
theorem dX10_clears_66 : decode cX10_clears 66 = .ok (.iconst 4, 1) := by decide +kernel
theorem dX10_clears_67 : decode cX10_clears 67 = .ok (.if_icmp .ge 19, 3) := by decide +kernel
theorem dX10_clears_70 : decode cX10_clears 70 = .ok (.aload_n 0, 1) := by decide +kernel
theorem dX10_clears_71 : decode cX10_clears 71 = .ok (.getfield 40, 3) := by decide +kernel
theorem dX10_clears_74 : decode cX10_clears 74 = .ok (.bipush 16, 2) := by decide +kernel
theorem dX10_clears_76 : decode cX10_clears 76 = .ok (.iload_n 1, 1) := by decide +kernel
theorem dX10_clears_77 : decode cX10_clears 77 = .ok (.iadd, 1) := by decide +kernel
theorem dX10_clears_78 : decode cX10_clears 78 = .ok (.iconst 0, 1) := by decide +kernel
theorem dX10_clears_79 : decode cX10_clears 79 = .ok (.iastore, 1) := by decide +kernel
theorem dX10_clears_80 : decode cX10_clears 80 = .ok (.iinc 1 1, 3) := by decide +kernel
theorem dX10_clears_83 : decode cX10_clears 83 = .ok (.goto (-18), 3) := by decide +kernel
theorem dX10_clears_86 : decode cX10_clears 86 = .ok (.iconst 0, 1) := by decide +kernel
theorem dX10_clears_87 : decode cX10_clears 87 = .ok (.istore_n 1, 1) := by decide +kernel
theorem dX10_clears_88 : decode cX10_clears 88 = .ok (.iload_n 1, 1) := by decide +kernel
theorem dX10_clears_89 : decode cX10_clears 89 = .ok (.bipush 36, 2) := by decide +kernel
theorem dX10_clears_91 : decode cX10_clears 91 = .ok (.if_icmp .ge 20, 3) := by decide +kernel
theorem dX10_clears_94 : decode cX10_clears 94 = .ok (.aload_n 0, 1) := by decide +kernel
theorem dX10_clears_95 : decode cX10_clears 95 = .ok (.getfield 43, 3) := by decide +kernel
theorem dX10_clears_98 : decode cX10_clears 98 = .ok (.sipush 144, 3) := by decide +kernel
theorem dX10_clears_101 : decode cX10_clears 101 = .ok (.iload_n 1, 1) := by decide +kernel
theorem dX10_clears_102 : decode cX10_clears 102 = .ok (.iadd, 1) := by decide +kernel
theorem dX10_clears_103 : decode cX10_clears 103 = .ok (.iconst 0, 1) := by decide +kernel
theorem dX10_clears_104 : decode cX10_clears 104 = .ok (.iastore, 1) := by decide +kernel
theorem dX10_clears_105 : decode cX10_clears 105 = .ok (.iinc 1 1, 3) := by decide +kernel
theorem dX10_clears_108 : decode cX10_clears 108 = .ok (.goto (-20), 3) := by decide +kernel
theorem dX10_clears_111 : decode cX10_clears 111 = .ok (.aload_n 0, 1) := by decide +kernel
theorem dX10_clears_112 : decode cX10_clears 112 = .ok (.iconst 0, 1) := by decide +kernel
theorem dX10_clears_113 : decode cX10_clears 113 = .ok (.putfield 225, 3) := by decide +kernel
theorem dX10_clears_116 : decode cX10_clears 116 = .ok (.return_, 1) := by decide +kernel
theorem dX10_moor_0 : decode cX10_moor 0 = .ok (.aload_n 0, 1) := by decide +kernel
theorem dX10_moor_1 : decode cX10_moor 1 = .ok (.iconst 0, 1) := by decide +kernel
theorem dX10_moor_2 : decode cX10_moor 2 = .ok (.putfield 104, 3) := by decide +kernel
theorem dX10_moor_5 : decode cX10_moor 5 = .ok (.aload_n 0, 1) := by decide +kernel
theorem dX10_moor_6 : decode cX10_moor 6 = .ok (.invokevirtual 249, 3) := by decide +kernel
theorem dX10_moor_9 : decode cX10_moor 9 = .ok (.aload_n 0, 1) := by decide +kernel
theorem dX10_moor_10 : decode cX10_moor 10 = .ok (.invokevirtual 252, 3) := by decide +kernel
theorem dX10_moor_13 : decode cX10_moor 13 = .ok (.aload_n 0, 1) := by decide +kernel
theorem dX10_moor_14 : decode cX10_moor 14 = .ok (.invokevirtual 234, 3) := by decide +kernel
theorem dX10_moor_17 : decode cX10_moor 17 = .ok (.ifCond .eq 125, 3) := by decide +kernel
theorem dX10_moor_20 : decode cX10_moor 20 = .ok (.aload_n 0, 1) := by decide +kernel
theorem dX10_moor_21 : decode cX10_moor 21 = .ok (.getfield 145, 3) := by decide +kernel
theorem dX10_moor_24 : decode cX10_moor 24 = .ok (.ifCond .eq 118, 3) := by decide +kernel
theorem dX10_moor_27 : decode cX10_moor 27 = .ok (.aload_n 0, 1) := by decide +kernel
theorem dX10_moor_28 : decode cX10_moor 28 = .ok (.getfield 31, 3) := by decide +kernel
theorem dX10_moor_31 : decode cX10_moor 31 = .ok (.iconst 4, 1) := by decide +kernel
theorem dX10_moor_32 : decode cX10_moor 32 = .ok (.iaload, 1) := by decide +kernel
theorem dX10_moor_33 : decode cX10_moor 33 = .ok (.ifCond .ne 81, 3) := by decide +kernel
theorem dX10_moor_36 : decode cX10_moor 36 = .ok (.aload_n 0, 1) := by decide +kernel
theorem dX10_moor_37 : decode cX10_moor 37 = .ok (.ldc2_w 255, 3) := by decide +kernel
theorem dX10_moor_40 : decode cX10_moor 40 = .ok (.invokevirtual 175, 3) := by decide +kernel
theorem dX10_moor_43 : decode cX10_moor 43 = .ok (.aload_n 0, 1) := by decide +kernel
theorem dX10_moor_44 : decode cX10_moor 44 = .ok (.getfield 34, 3) := by decide +kernel
theorem dX10_moor_47 : decode cX10_moor 47 = .ok (.bipush 24, 2) := by decide +kernel
theorem dX10_moor_49 : decode cX10_moor 49 = .ok (.aload_n 0, 1) := by decide +kernel
theorem dX10_moor_50 : decode cX10_moor 50 = .ok (.ldc2_w 186, 3) := by decide +kernel
theorem dX10_moor_53 : decode cX10_moor 53 = .ok (.iconst 1, 1) := by decide +kernel
theorem dX10_moor_54 : decode cX10_moor 54 = .ok (.iconst 4, 1) := by decide +kernel
theorem dX10_moor_55 : decode cX10_moor 55 = .ok (.invokevirtual 204, 3) := by decide +kernel
theorem dX10_moor_58 : decode cX10_moor 58 = .ok (.iastore, 1) := by decide +kernel
theorem dX10_moor_59 : decode cX10_moor 59 = .ok (.aload_n 0, 1) := by decide +kernel
theorem dX10_moor_60 : decode cX10_moor 60 = .ok (.getfield 34, 3) := by decide +kernel
theorem dX10_moor_63 : decode cX10_moor 63 = .ok (.bipush 25, 2) := by decide +kernel
theorem dX10_moor_65 : decode cX10_moor 65 = .ok (.aload_n 0, 1) := by decide +kernel
theorem dX10_moor_66 : decode cX10_moor 66 = .ok (.ldc2_w 257, 3) := by decide +kernel
theorem dX10_moor_69 : decode cX10_moor 69 = .ok (.iconst 1, 1) := by decide +kernel
theorem dX10_moor_70 : decode cX10_moor 70 = .ok (.bipush 9, 2) := by decide +kernel
theorem dX10_moor_72 : decode cX10_moor 72 = .ok (.invokevirtual 204, 3) := by decide +kernel
theorem dX10_moor_75 : decode cX10_moor 75 = .ok (.iastore, 1) := by decide +kernel
theorem dX10_moor_76 : decode cX10_moor 76 = .ok (.aload_n 0, 1) := by decide +kernel
theorem dX10_moor_77 : decode cX10_moor 77 = .ok (.getfield 37, 3) := by decide +kernel
theorem dX10_moor_80 : decode cX10_moor 80 = .ok (.bipush 23, 2) := by decide +kernel
theorem dX10_moor_82 : decode cX10_moor 82 = .ok (.aload_n 0, 1) := by decide +kernel
theorem dX10_moor_83 : decode cX10_moor 83 = .ok (.ldc2_w 259, 3) := by decide +kernel
theorem dX10_moor_86 : decode cX10_moor 86 = .ok (.iconst 2, 1) := by decide +kernel
theorem dX10_moor_87 : decode cX10_moor 87 = .ok (.bipush 100, 2) := by decide +kernel
theorem dX10_moor_89 : decode cX10_moor 89 = .ok (.invokevirtual 204, 3) := by decide +kernel
theorem dX10_moor_92 : decode cX10_moor 92 = .ok (.iastore, 1) := by decide +kernel
theorem dX10_moor_93 : decode cX10_moor 93 = .ok (.aload_n 0, 1) := by decide +kernel
theorem dX10_moor_94 : decode cX10_moor 94 = .ok (.getfield 37, 3) := by decide +kernel
theorem dX10_moor_97 : decode cX10_moor 97 = .ok (.bipush 24, 2) := by decide +kernel
theorem dX10_moor_99 : decode cX10_moor 99 = .ok (.aload_n 0, 1) := by decide +kernel
theorem dX10_moor_100 : decode cX10_moor 100 = .ok (.ldc2_w 261, 3) := by decide +kernel
theorem dX10_moor_103 : decode cX10_moor 103 = .ok (.iconst 0, 1) := by decide +kernel
theorem dX10_moor_104 : decode cX10_moor 104 = .ok (.sipush 999, 3) := by decide +kernel
theorem dX10_moor_107 : decode cX10_moor 107 = .ok (.invokevirtual 204, 3) := by decide +kernel
theorem dX10_moor_110 : decode cX10_moor 110 = .ok (.iastore, 1) := by decide +kernel
theorem dX10_moor_111 : decode cX10_moor 111 = .ok (.goto 7, 3) := by decide +kernel
theorem dX10_moor_114 : decode cX10_moor 114 = .ok (.aload_n 0, 1) := by decide +kernel
theorem dX10_moor_115 : decode cX10_moor 115 = .ok (.invokevirtual 263, 3) := by decide +kernel
theorem dX10_moor_118 : decode cX10_moor 118 = .ok (.aload_n 0, 1) := by decide +kernel
theorem dX10_moor_119 : decode cX10_moor 119 = .ok (.invokevirtual 234, 3) := by decide +kernel
theorem dX10_moor_122 : decode cX10_moor 122 = .ok (.ifCond .eq 7, 3) := by decide +kernel
theorem dX10_moor_125 : decode cX10_moor 125 = .ok (.aload_n 0, 1) := by decide +kernel
theorem dX10_moor_126 : decode cX10_moor 126 = .ok (.invokevirtual 266, 3) := by decide +kernel
theorem dX10_moor_129 : decode cX10_moor 129 = .ok (.aload_n 0, 1) := by decide +kernel
theorem dX10_moor_130 : decode cX10_moor 130 = .ok (.getfield 31, 3) := by decide +kernel
theorem dX10_moor_133 : decode cX10_moor 133 = .ok (.iconst 4, 1) := by decide +kernel
theorem dX10_moor_134 : decode cX10_moor 134 = .ok (.dup2, 1) := by decide +kernel
theorem dX10_moor_135 : decode cX10_moor 135 = .ok (.iaload, 1) := by decide +kernel
theorem dX10_moor_136 : decode cX10_moor 136 = .ok (.iconst 1, 1) := by decide +kernel
theorem dX10_moor_137 : decode cX10_moor 137 = .ok (.iadd, 1) := by decide +kernel
theorem dX10_moor_138 : decode cX10_moor 138 = .ok (.iastore, 1) := by decide +kernel
theorem dX10_moor_139 : decode cX10_moor 139 = .ok (.goto (-126), 3) := by decide +kernel
theorem dX10_moor_142 : decode cX10_moor 142 = .ok (.aload_n 0, 1) := by decide +kernel
theorem dX10_moor_143 : decode cX10_moor 143 = .ok (.invokevirtual 269, 3) := by decide +kernel
theorem dX10_moor_146 : decode cX10_moor 146 = .ok (.aload_n 0, 1) := by decide +kernel
theorem dX10_moor_147 : decode cX10_moor 147 = .ok (.getfield 156, 3) := by decide +kernel
theorem dX10_moor_150 : decode cX10_moor 150 = .ok (.ifCond .eq 6, 3) := by decide +kernel
theorem dX10_moor_153 : decode cX10_moor 153 = .ok (.bipush (-4), 2) := by decide +kernel
theorem dX10_moor_155 : decode cX10_moor 155 = .ok (.ireturn, 1) := by decide +kernel
theorem dX10_moor_156 : decode cX10_moor 156 = .ok (.aload_n 0, 1) := by decide +kernel
theorem dX10_moor_157 : decode cX10_moor 157 = .ok (.iconst 4, 1) := by decide +kernel
theorem dX10_moor_158 : decode cX10_moor 158 = .ok (.iconst 0, 1) := by decide +kernel
theorem dX10_moor_159 : decode cX10_moor 159 = .ok (.invokevirtual 272, 3) := by decide +kernel
theorem dX10_moor_162 : decode cX10_moor 162 = .ok (.aload_n 0, 1) := by decide +kernel
theorem dX10_moor_163 : decode cX10_moor 163 = .ok (.getfield 31, 3) := by decide +kernel
theorem dX10_moor_166 : decode cX10_moor 166 = .ok (.iconst 0, 1) := by decide +kernel
theorem dX10_moor_167 : decode cX10_moor 167 = .ok (.iaload, 1) := by decide +kernel
theorem dX10_moor_168 : decode cX10_moor 168 = .ok (.ifCond .ne 10, 3) := by decide +kernel
theorem dX10_moor_171 : decode cX10_moor 171 = .ok (.aload_n 0, 1) := by decide +kernel
theorem dX10_moor_172 : decode cX10_moor 172 = .ok (.getfield 34, 3) := by decide +kernel
theorem dX10_moor_175 : decode cX10_moor 175 = .ok (.iconst 2, 1) := by decide +kernel
theorem dX10_moor_176 : decode cX10_moor 176 = .ok (.iconst 0, 1) := by decide +kernel
theorem dX10_moor_177 : decode cX10_moor 177 = .ok (.iastore, 1) := by decide +kernel
theorem dX10_moor_178 : decode cX10_moor 178 = .ok (.aload_n 0, 1) := by decide +kernel
theorem dX10_moor_179 : decode cX10_moor 179 = .ok (.getfield 31, 3) := by decide +kernel
theorem dX10_moor_182 : decode cX10_moor 182 = .ok (.iconst 0, 1) := by decide +kernel
theorem dX10_moor_183 : decode cX10_moor 183 = .ok (.iaload, 1) := by decide +kernel
theorem dX10_moor_184 : decode cX10_moor 184 = .ok (.ireturn, 1) := by decide +kernel
theorem dX10_copyRow_0 : decode cX10_copyRow 0 = .ok (.iconst 0, 1) := by decide +kernel
theorem dX10_copyRow_1 : decode cX10_copyRow 1 = .ok (.istore 4, 2) := by decide +kernel
theorem dX10_copyRow_3 : decode cX10_copyRow 3 = .ok (.iload 4, 2) := by decide +kernel
theorem dX10_copyRow_5 : decode cX10_copyRow 5 = .ok (.iload_n 1, 1) := by decide +kernel
theorem dX10_copyRow_6 : decode cX10_copyRow 6 = .ok (.if_icmp .ge 25, 3) := by decide +kernel
theorem dX10_copyRow_9 : decode cX10_copyRow 9 = .ok (.aload_n 0, 1) := by decide +kernel
theorem dX10_copyRow_10 : decode cX10_copyRow 10 = .ok (.iload_n 1, 1) := by decide +kernel
theorem dX10_copyRow_11 : decode cX10_copyRow 11 = .ok (.iload_n 3, 1) := by decide +kernel
theorem dX10_copyRow_12 : decode cX10_copyRow 12 = .ok (.imul, 1) := by decide +kernel
theorem dX10_copyRow_13 : decode cX10_copyRow 13 = .ok (.iload 4, 2) := by decide +kernel
theorem dX10_copyRow_15 : decode cX10_copyRow 15 = .ok (.iadd, 1) := by decide +kernel
theorem dX10_copyRow_16 : decode cX10_copyRow 16 = .ok (.aload_n 0, 1) := by decide +kernel
theorem dX10_copyRow_17 : decode cX10_copyRow 17 = .ok (.iload_n 1, 1) := by decide +kernel
theorem dX10_copyRow_18 : decode cX10_copyRow 18 = .ok (.iload_n 2, 1) := by decide +kernel
theorem dX10_copyRow_19 : decode cX10_copyRow 19 = .ok (.imul, 1) := by decide +kernel
theorem dX10_copyRow_20 : decode cX10_copyRow 20 = .ok (.iload 4, 2) := by decide +kernel
theorem dX10_copyRow_22 : decode cX10_copyRow 22 = .ok (.iadd, 1) := by decide +kernel
theorem dX10_copyRow_23 : decode cX10_copyRow 23 = .ok (.iaload, 1) := by decide +kernel
theorem dX10_copyRow_24 : decode cX10_copyRow 24 = .ok (.iastore, 1) := by decide +kernel
theorem dX10_copyRow_25 : decode cX10_copyRow 25 = .ok (.iinc 4 1, 3) := by decide +kernel
theorem dX10_copyRow_28 : decode cX10_copyRow 28 = .ok (.goto (-25), 3) := by decide +kernel
theorem dX10_copyRow_31 : decode cX10_copyRow 31 = .ok (.return_, 1) := by decide +kernel
theorem dX10_copyMoor_0 : decode cX10_copyMoor 0 = .ok (.aload_n 0, 1) := by decide +kernel
theorem dX10_copyMoor_1 : decode cX10_copyMoor 1 = .ok (.getfield 31, 3) := by decide +kernel
theorem dX10_copyMoor_4 : decode cX10_copyMoor 4 = .ok (.iconst 1, 1) := by decide +kernel
theorem dX10_copyMoor_5 : decode cX10_copyMoor 5 = .ok (.iload_n 1, 1) := by decide +kernel
theorem dX10_copyMoor_6 : decode cX10_copyMoor 6 = .ok (.iload_n 2, 1) := by decide +kernel
theorem dX10_copyMoor_7 : decode cX10_copyMoor 7 = .ok (.invokestatic 276, 3) := by decide +kernel
theorem dX10_copyMoor_10 : decode cX10_copyMoor 10 = .ok (.aload_n 0, 1) := by decide +kernel
theorem dX10_copyMoor_11 : decode cX10_copyMoor 11 = .ok (.getfield 34, 3) := by decide +kernel
theorem dX10_copyMoor_14 : decode cX10_copyMoor 14 = .ok (.bipush 6, 2) := by decide +kernel
theorem dX10_copyMoor_16 : decode cX10_copyMoor 16 = .ok (.iload_n 1, 1) := by decide +kernel
theorem dX10_copyMoor_17 : decode cX10_copyMoor 17 = .ok (.iload_n 2, 1) := by decide +kernel
theorem dX10_copyMoor_18 : decode cX10_copyMoor 18 = .ok (.invokestatic 276, 3) := by decide +kernel
theorem dX10_copyMoor_21 : decode cX10_copyMoor 21 = .ok (.aload_n 0, 1) := by decide +kernel
theorem dX10_copyMoor_22 : decode cX10_copyMoor 22 = .ok (.getfield 37, 3) := by decide +kernel
theorem dX10_copyMoor_25 : decode cX10_copyMoor 25 = .ok (.iconst 5, 1) := by decide +kernel
theorem dX10_copyMoor_26 : decode cX10_copyMoor 26 = .ok (.iload_n 1, 1) := by decide +kernel
theorem dX10_copyMoor_27 : decode cX10_copyMoor 27 = .ok (.iload_n 2, 1) := by decide +kernel
theorem dX10_copyMoor_28 : decode cX10_copyMoor 28 = .ok (.invokestatic 276, 3) := by decide +kernel
theorem dX10_copyMoor_31 : decode cX10_copyMoor 31 = .ok (.aload_n 0, 1) := by decide +kernel
theorem dX10_copyMoor_32 : decode cX10_copyMoor 32 = .ok (.getfield 40, 3) := by decide +kernel
theorem dX10_copyMoor_35 : decode cX10_copyMoor 35 = .ok (.iconst 4, 1) := by decide +kernel
theorem dX10_copyMoor_36 : decode cX10_copyMoor 36 = .ok (.iload_n 1, 1) := by decide +kernel
theorem dX10_copyMoor_37 : decode cX10_copyMoor 37 = .ok (.iload_n 2, 1) := by decide +kernel
theorem dX10_copyMoor_38 : decode cX10_copyMoor 38 = .ok (.invokestatic 276, 3) := by decide +kernel
theorem dX10_copyMoor_41 : decode cX10_copyMoor 41 = .ok (.aload_n 0, 1) := by decide +kernel
theorem dX10_copyMoor_42 : decode cX10_copyMoor 42 = .ok (.getfield 43, 3) := by decide +kernel
theorem dX10_copyMoor_45 : decode cX10_copyMoor 45 = .ok (.bipush 36, 2) := by decide +kernel
theorem dX10_copyMoor_47 : decode cX10_copyMoor 47 = .ok (.iload_n 1, 1) := by decide +kernel
theorem dX10_copyMoor_48 : decode cX10_copyMoor 48 = .ok (.iload_n 2, 1) := by decide +kernel
theorem dX10_copyMoor_49 : decode cX10_copyMoor 49 = .ok (.invokestatic 276, 3) := by decide +kernel
theorem dX10_copyMoor_52 : decode cX10_copyMoor 52 = .ok (.aload_n 0, 1) := by decide +kernel
theorem dX10_copyMoor_53 : decode cX10_copyMoor 53 = .ok (.getfield 46, 3) := by decide +kernel
theorem dX10_copyMoor_56 : decode cX10_copyMoor 56 = .ok (.bipush 104, 2) := by decide +kernel
theorem dX10_copyMoor_58 : decode cX10_copyMoor 58 = .ok (.iload_n 1, 1) := by decide +kernel
theorem dX10_copyMoor_59 : decode cX10_copyMoor 59 = .ok (.iload_n 2, 1) := by decide +kernel
theorem dX10_copyMoor_60 : decode cX10_copyMoor 60 = .ok (.invokestatic 276, 3) := by decide +kernel
theorem dX10_copyMoor_63 : decode cX10_copyMoor 63 = .ok (.return_, 1) := by decide +kernel
theorem dX10_isMoor_0 : decode cX10_isMoor 0 = .ok (.aload_n 0, 1) := by decide +kernel
theorem dX10_isMoor_1 : decode cX10_isMoor 1 = .ok (.getfield 31, 3) := by decide +kernel
theorem dX10_isMoor_4 : decode cX10_isMoor 4 = .ok (.iconst 0, 1) := by decide +kernel
theorem dX10_isMoor_5 : decode cX10_isMoor 5 = .ok (.iaload, 1) := by decide +kernel
theorem dX10_isMoor_6 : decode cX10_isMoor 6 = .ok (.ifCond .le 7, 3) := by decide +kernel
theorem dX10_isMoor_9 : decode cX10_isMoor 9 = .ok (.iconst 1, 1) := by decide +kernel
theorem dX10_isMoor_10 : decode cX10_isMoor 10 = .ok (.goto 4, 3) := by decide +kernel
theorem dX10_isMoor_13 : decode cX10_isMoor 13 = .ok (.iconst 0, 1) := by decide +kernel
theorem dX10_isMoor_14 : decode cX10_isMoor 14 = .ok (.ireturn, 1) := by decide +kernel
theorem dX10_isGap_0 : decode cX10_isGap 0 = .ok (.iload_n 1, 1) := by decide +kernel
theorem dX10_isGap_1 : decode cX10_isGap 1 = .ok (.i2l, 1) := by decide +kernel
theorem dX10_isGap_2 : decode cX10_isGap 2 = .ok (.lconst 0, 1) := by decide +kernel
theorem dX10_isGap_3 : decode cX10_isGap 3 = .ok (.aload_n 0, 1) := by decide +kernel
theorem dX10_isGap_4 : decode cX10_isGap 4 = .ok (.getfield 34, 3) := by decide +kernel
theorem dX10_isGap_7 : decode cX10_isGap 7 = .ok (.iconst 0, 1) := by decide +kernel
theorem dX10_isGap_8 : decode cX10_isGap 8 = .ok (.iaload, 1) := by decide +kernel
theorem dX10_isGap_9 : decode cX10_isGap 9 = .ok (.iconst 1, 1) := by decide +kernel
theorem dX10_isGap_10 : decode cX10_isGap 10 = .ok (.isub, 1) := by decide +kernel
theorem dX10_isGap_11 : decode cX10_isGap 11 = .ok (.i2l, 1) := by decide +kernel
theorem dX10_isGap_12 : decode cX10_isGap 12 = .ok (.invokestatic 109, 3) := by decide +kernel
theorem dX10_isGap_15 : decode cX10_isGap 15 = .ok (.ireturn, 1) := by decide +kernel
theorem dX10_isDay_0 : decode cX10_isDay 0 = .ok (.iload_n 1, 1) := by decide +kernel
theorem dX10_isDay_1 : decode cX10_isDay 1 = .ok (.i2l, 1) := by decide +kernel
theorem dX10_isDay_2 : decode cX10_isDay 2 = .ok (.lconst 0, 1) := by decide +kernel
theorem dX10_isDay_3 : decode cX10_isDay 3 = .ok (.aload_n 0, 1) := by decide +kernel
theorem dX10_isDay_4 : decode cX10_isDay 4 = .ok (.getfield 34, 3) := by decide +kernel
theorem dX10_isDay_7 : decode cX10_isDay 7 = .ok (.iconst 1, 1) := by decide +kernel
theorem dX10_isDay_8 : decode cX10_isDay 8 = .ok (.iaload, 1) := by decide +kernel
theorem dX10_isDay_9 : decode cX10_isDay 9 = .ok (.iconst 1, 1) := by decide +kernel
theorem dX10_isDay_10 : decode cX10_isDay 10 = .ok (.isub, 1) := by decide +kernel
theorem dX10_isDay_11 : decode cX10_isDay 11 = .ok (.i2l, 1) := by decide +kernel
theorem dX10_isDay_12 : decode cX10_isDay 12 = .ok (.invokestatic 109, 3) := by decide +kernel
theorem dX10_isDay_15 : decode cX10_isDay 15 = .ok (.ireturn, 1) := by decide +kernel
theorem dX10_isOwner_0 : decode cX10_isOwner 0 = .ok (.aload_n 0, 1) := by decide +kernel
theorem dX10_isOwner_1 : decode cX10_isOwner 1 = .ok (.invokevirtual 280, 3) := by decide +kernel
theorem dX10_isOwner_4 : decode cX10_isOwner 4 = .ok (.ifCond .eq 24, 3) := by decide +kernel
theorem dX10_isOwner_7 : decode cX10_isOwner 7 = .ok (.lload_n 1, 1) := by decide +kernel
theorem dX10_isOwner_8 : decode cX10_isOwner 8 = .ok (.lconst 0, 1) := by decide +kernel
theorem dX10_isOwner_9 : decode cX10_isOwner 9 = .ok (.aload_n 0, 1) := by decide +kernel
theorem dX10_isOwner_10 : decode cX10_isOwner 10 = .ok (.getfield 34, 3) := by decide +kernel
theorem dX10_isOwner_13 : decode cX10_isOwner 13 = .ok (.iconst 2, 1) := by decide +kernel
theorem dX10_isOwner_14 : decode cX10_isOwner 14 = .ok (.iaload, 1) := by decide +kernel
theorem dX10_isOwner_15 : decode cX10_isOwner 15 = .ok (.i2l, 1) := by decide +kernel
theorem dX10_isOwner_16 : decode cX10_isOwner 16 = .ok (.lconst 1, 1) := by decide +kernel
theorem dX10_isOwner_17 : decode cX10_isOwner 17 = .ok (.lsub, 1) := by decide +kernel
theorem dX10_isOwner_18 : decode cX10_isOwner 18 = .ok (.invokestatic 109, 3) := by decide +kernel
theorem dX10_isOwner_21 : decode cX10_isOwner 21 = .ok (.ifCond .eq 7, 3) := by decide +kernel
theorem dX10_isOwner_24 : decode cX10_isOwner 24 = .ok (.iconst 1, 1) := by decide +kernel
theorem dX10_isOwner_25 : decode cX10_isOwner 25 = .ok (.goto 4, 3) := by decide +kernel
theorem dX10_isOwner_28 : decode cX10_isOwner 28 = .ok (.iconst 0, 1) := by decide +kernel

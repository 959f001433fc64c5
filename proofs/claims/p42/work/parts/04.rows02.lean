theorem dX5_step_106 : decode cX5_step 106 = .ok (.getfield 30, 3) := by decide +kernel
theorem dX5_step_109 : decode cX5_step 109 = .ok (.baload, 1) := by decide +kernel
theorem dX5_step_110 : decode cX5_step 110 = .ok (.invokestatic 66, 3) := by decide +kernel
theorem dX5_step_113 : decode cX5_step 113 = .ok (.ifCond .eq 127, 3) := by decide +kernel
theorem dX5_step_116 : decode cX5_step 116 = .ok (.aload_n 0, 1) := by decide +kernel
theorem dX5_step_117 : decode cX5_step 117 = .ok (.dup, 1) := by decide +kernel
theorem dX5_step_118 : decode cX5_step 118 = .ok (.getfield 30, 3) := by decide +kernel
theorem dX5_step_121 : decode cX5_step 121 = .ok (.iconst 1, 1) := by decide +kernel
theorem dX5_step_122 : decode cX5_step 122 = .ok (.iadd, 1) := by decide +kernel
theorem dX5_step_123 : decode cX5_step 123 = .ok (.putfield 30, 3) := by decide +kernel
theorem dX5_step_126 : decode cX5_step 126 = .ok (.goto (-30), 3) := by decide +kernel
theorem dX5_step_129 : decode cX5_step 129 = .ok (.aload_n 1, 1) := by decide +kernel
theorem dX5_step_130 : decode cX5_step 130 = .ok (.aload_n 0, 1) := by decide +kernel
theorem dX5_step_131 : decode cX5_step 131 = .ok (.getfield 44, 3) := by decide +kernel
theorem dX5_step_134 : decode cX5_step 134 = .ok (.baload, 1) := by decide +kernel
theorem dX5_step_135 : decode cX5_step 135 = .ok (.invokestatic 69, 3) := by decide +kernel
theorem dX5_step_138 : decode cX5_step 138 = .ok (.ifCond .eq 72, 3) := by decide +kernel
theorem dX5_step_141 : decode cX5_step 141 = .ok (.aload_n 0, 1) := by decide +kernel
theorem dX5_step_142 : decode cX5_step 142 = .ok (.iconst 2, 1) := by decide +kernel
theorem dX5_step_143 : decode cX5_step 143 = .ok (.putfield 41, 3) := by decide +kernel
theorem dX5_step_146 : decode cX5_step 146 = .ok (.aload_n 0, 1) := by decide +kernel
theorem dX5_step_147 : decode cX5_step 147 = .ok (.iconst 0, 1) := by decide +kernel
theorem dX5_step_148 : decode cX5_step 148 = .ok (.putfield 72, 3) := by decide +kernel
theorem dX5_step_151 : decode cX5_step 151 = .ok (.aload_n 0, 1) := by decide +kernel
theorem dX5_step_152 : decode cX5_step 152 = .ok (.getfield 30, 3) := by decide +kernel
theorem dX5_step_155 : decode cX5_step 155 = .ok (.iload_n 2, 1) := by decide +kernel
theorem dX5_step_156 : decode cX5_step 156 = .ok (.if_icmp .ge 84, 3) := by decide +kernel
theorem dX5_step_159 : decode cX5_step 159 = .ok (.aload_n 1, 1) := by decide +kernel
theorem dX5_step_160 : decode cX5_step 160 = .ok (.aload_n 0, 1) := by decide +kernel
theorem dX5_step_161 : decode cX5_step 161 = .ok (.getfield 30, 3) := by decide +kernel
theorem dX5_step_164 : decode cX5_step 164 = .ok (.baload, 1) := by decide +kernel
theorem dX5_step_165 : decode cX5_step 165 = .ok (.invokestatic 69, 3) := by decide +kernel
theorem dX5_step_168 : decode cX5_step 168 = .ok (.ifCond .eq 72, 3) := by decide +kernel
theorem dX5_step_171 : decode cX5_step 171 = .ok (.aload_n 0, 1) := by decide +kernel
theorem dX5_step_172 : decode cX5_step 172 = .ok (.ldc 75, 2) := by decide +kernel
theorem dX5_step_174 : decode cX5_step 174 = .ok (.bipush 10, 2) := by decide +kernel
theorem dX5_step_176 : decode cX5_step 176 = .ok (.aload_n 0, 1) := by decide +kernel
theorem dX5_step_177 : decode cX5_step 177 = .ok (.getfield 72, 3) := by decide +kernel
theorem dX5_step_180 : decode cX5_step 180 = .ok (.imul, 1) := by decide +kernel
theorem dX5_step_181 : decode cX5_step 181 = .ok (.aload_n 1, 1) := by decide +kernel
theorem dX5_step_182 : decode cX5_step 182 = .ok (.aload_n 0, 1) := by decide +kernel
theorem dX5_step_183 : decode cX5_step 183 = .ok (.getfield 30, 3) := by decide +kernel
theorem dX5_step_186 : decode cX5_step 186 = .ok (.baload, 1) := by decide +kernel
theorem dX5_step_187 : decode cX5_step 187 = .ok (.iadd, 1) := by decide +kernel
theorem dX5_step_188 : decode cX5_step 188 = .ok (.bipush 48, 2) := by decide +kernel
theorem dX5_step_190 : decode cX5_step 190 = .ok (.isub, 1) := by decide +kernel
theorem dX5_step_191 : decode cX5_step 191 = .ok (.invokestatic 56, 3) := by decide +kernel
theorem dX5_step_194 : decode cX5_step 194 = .ok (.putfield 72, 3) := by decide +kernel
theorem dX5_step_197 : decode cX5_step 197 = .ok (.aload_n 0, 1) := by decide +kernel
theorem dX5_step_198 : decode cX5_step 198 = .ok (.dup, 1) := by decide +kernel
theorem dX5_step_199 : decode cX5_step 199 = .ok (.getfield 30, 3) := by decide +kernel
theorem dX5_step_202 : decode cX5_step 202 = .ok (.iconst 1, 1) := by decide +kernel
theorem dX5_step_203 : decode cX5_step 203 = .ok (.iadd, 1) := by decide +kernel
theorem dX5_step_204 : decode cX5_step 204 = .ok (.putfield 30, 3) := by decide +kernel
theorem dX5_step_207 : decode cX5_step 207 = .ok (.goto (-56), 3) := by decide +kernel
theorem dX5_step_210 : decode cX5_step 210 = .ok (.aload_n 0, 1) := by decide +kernel
theorem dX5_step_211 : decode cX5_step 211 = .ok (.aload_n 1, 1) := by decide +kernel
theorem dX5_step_212 : decode cX5_step 212 = .ok (.aload_n 0, 1) := by decide +kernel
theorem dX5_step_213 : decode cX5_step 213 = .ok (.getfield 44, 3) := by decide +kernel
theorem dX5_step_216 : decode cX5_step 216 = .ok (.baload, 1) := by decide +kernel
theorem dX5_step_217 : decode cX5_step 217 = .ok (.bipush 59, 2) := by decide +kernel
theorem dX5_step_219 : decode cX5_step 219 = .ok (.if_icmp .ne 7, 3) := by decide +kernel
theorem dX5_step_222 : decode cX5_step 222 = .ok (.iconst 3, 1) := by decide +kernel
theorem dX5_step_223 : decode cX5_step 223 = .ok (.goto 4, 3) := by decide +kernel
theorem dX5_step_226 : decode cX5_step 226 = .ok (.iconst 4, 1) := by decide +kernel
theorem dX5_step_227 : decode cX5_step 227 = .ok (.putfield 41, 3) := by decide +kernel
theorem dX5_step_230 : decode cX5_step 230 = .ok (.aload_n 0, 1) := by decide +kernel
theorem dX5_step_231 : decode cX5_step 231 = .ok (.dup, 1) := by decide +kernel
theorem dX5_step_232 : decode cX5_step 232 = .ok (.getfield 30, 3) := by decide +kernel
theorem dX5_step_235 : decode cX5_step 235 = .ok (.iconst 1, 1) := by decide +kernel
theorem dX5_step_236 : decode cX5_step 236 = .ok (.iadd, 1) := by decide +kernel
theorem dX5_step_237 : decode cX5_step 237 = .ok (.putfield 30, 3) := by decide +kernel
theorem dX5_step_240 : decode cX5_step 240 = .ok (.return_, 1) := by decide +kernel
theorem dX5_sees_0 : decode cX5_sees 0 = .ok (.aload_n 0, 1) := by decide +kernel
theorem dX5_sees_1 : decode cX5_sees 1 = .ok (.getfield 23, 3) := by decide +kernel
theorem dX5_sees_4 : decode cX5_sees 4 = .ok (.ifCond .ne 27, 3) := by decide +kernel
theorem dX5_sees_7 : decode cX5_sees 7 = .ok (.aload_n 0, 1) := by decide +kernel
theorem dX5_sees_8 : decode cX5_sees 8 = .ok (.getfield 41, 3) := by decide +kernel
theorem dX5_sees_11 : decode cX5_sees 11 = .ok (.iconst 1, 1) := by decide +kernel
theorem dX5_sees_12 : decode cX5_sees 12 = .ok (.if_icmp .ne 19, 3) := by decide +kernel
theorem dX5_sees_15 : decode cX5_sees 15 = .ok (.aload_n 0, 1) := by decide +kernel
theorem dX5_sees_16 : decode cX5_sees 16 = .ok (.getfield 30, 3) := by decide +kernel
theorem dX5_sees_19 : decode cX5_sees 19 = .ok (.aload_n 0, 1) := by decide +kernel
theorem dX5_sees_20 : decode cX5_sees 20 = .ok (.getfield 44, 3) := by decide +kernel
theorem dX5_sees_23 : decode cX5_sees 23 = .ok (.isub, 1) := by decide +kernel
theorem dX5_sees_24 : decode cX5_sees 24 = .ok (.aload_n 1, 1) := by decide +kernel
theorem dX5_sees_25 : decode cX5_sees 25 = .ok (.invokevirtual 76, 3) := by decide +kernel
theorem dX5_sees_28 : decode cX5_sees 28 = .ok (.if_icmp .eq 5, 3) := by decide +kernel
theorem dX5_sees_31 : decode cX5_sees 31 = .ok (.iconst 0, 1) := by decide +kernel
theorem dX5_sees_32 : decode cX5_sees 32 = .ok (.ireturn, 1) := by decide +kernel
theorem dX5_sees_33 : decode cX5_sees 33 = .ok (.iconst 0, 1) := by decide +kernel
theorem dX5_sees_34 : decode cX5_sees 34 = .ok (.istore_n 2, 1) := by decide +kernel
theorem dX5_sees_35 : decode cX5_sees 35 = .ok (.iload_n 2, 1) := by decide +kernel
theorem dX5_sees_36 : decode cX5_sees 36 = .ok (.aload_n 1, 1) := by decide +kernel
theorem dX5_sees_37 : decode cX5_sees 37 = .ok (.invokevirtual 76, 3) := by decide +kernel
theorem dX5_sees_40 : decode cX5_sees 40 = .ok (.if_icmp .ge 33, 3) := by decide +kernel
theorem dX5_sees_43 : decode cX5_sees 43 = .ok (.aload_n 0, 1) := by decide +kernel
theorem dX5_sees_44 : decode cX5_sees 44 = .ok (.getfield 15, 3) := by decide +kernel
theorem dX5_sees_47 : decode cX5_sees 47 = .ok (.getfield 47, 3) := by decide +kernel
theorem dX5_sees_50 : decode cX5_sees 50 = .ok (.aload_n 0, 1) := by decide +kernel
theorem dX5_sees_51 : decode cX5_sees 51 = .ok (.getfield 44, 3) := by decide +kernel
theorem dX5_sees_54 : decode cX5_sees 54 = .ok (.iload_n 2, 1) := by decide +kernel
theorem dX5_sees_55 : decode cX5_sees 55 = .ok (.iadd, 1) := by decide +kernel
theorem dX5_sees_56 : decode cX5_sees 56 = .ok (.baload, 1) := by decide +kernel
theorem dX5_sees_57 : decode cX5_sees 57 = .ok (.aload_n 1, 1) := by decide +kernel
theorem dX5_sees_58 : decode cX5_sees 58 = .ok (.iload_n 2, 1) := by decide +kernel
theorem dX5_sees_59 : decode cX5_sees 59 = .ok (.invokevirtual 81, 3) := by decide +kernel
theorem dX5_sees_62 : decode cX5_sees 62 = .ok (.if_icmp .eq 5, 3) := by decide +kernel
theorem dX5_sees_65 : decode cX5_sees 65 = .ok (.iconst 0, 1) := by decide +kernel
theorem dX5_sees_66 : decode cX5_sees 66 = .ok (.ireturn, 1) := by decide +kernel
theorem dX5_sees_67 : decode cX5_sees 67 = .ok (.iinc 2 1, 3) := by decide +kernel
theorem dX5_sees_70 : decode cX5_sees 70 = .ok (.goto (-35), 3) := by decide +kernel
theorem dX5_sees_73 : decode cX5_sees 73 = .ok (.iconst 1, 1) := by decide +kernel
theorem dX5_sees_74 : decode cX5_sees 74 = .ok (.ireturn, 1) := by decide +kernel
theorem dX5_tries_0 : decode cX5_tries 0 = .ok (.aload_n 0, 1) := by decide +kernel
theorem dX5_tries_1 : decode cX5_tries 1 = .ok (.aload_n 1, 1) := by decide +kernel
theorem dX5_tries_2 : decode cX5_tries 2 = .ok (.invokevirtual 85, 3) := by decide +kernel
theorem dX5_tries_5 : decode cX5_tries 5 = .ok (.ifCond .ne 5, 3) := by decide +kernel
theorem dX5_tries_8 : decode cX5_tries 8 = .ok (.iconst 0, 1) := by decide +kernel
theorem dX5_tries_9 : decode cX5_tries 9 = .ok (.ireturn, 1) := by decide +kernel
theorem dX5_tries_10 : decode cX5_tries 10 = .ok (.aload_n 0, 1) := by decide +kernel
theorem dX5_tries_11 : decode cX5_tries 11 = .ok (.invokevirtual 38, 3) := by decide +kernel
theorem dX5_tries_14 : decode cX5_tries 14 = .ok (.iconst 1, 1) := by decide +kernel
theorem dX5_tries_15 : decode cX5_tries 15 = .ok (.ireturn, 1) := by decide +kernel
theorem dX5_take_0 : decode cX5_take 0 = .ok (.aload_n 0, 1) := by decide +kernel
theorem dX5_take_1 : decode cX5_take 1 = .ok (.aload_n 1, 1) := by decide +kernel
theorem dX5_take_2 : decode cX5_take 2 = .ok (.invokevirtual 85, 3) := by decide +kernel
theorem dX5_take_5 : decode cX5_take 5 = .ok (.ifCond .eq 10, 3) := by decide +kernel
theorem dX5_take_8 : decode cX5_take 8 = .ok (.aload_n 0, 1) := by decide +kernel
theorem dX5_take_9 : decode cX5_take 9 = .ok (.invokevirtual 38, 3) := by decide +kernel
theorem dX5_take_12 : decode cX5_take 12 = .ok (.goto 8, 3) := by decide +kernel
theorem dX5_take_15 : decode cX5_take 15 = .ok (.aload_n 0, 1) := by decide +kernel
theorem dX5_take_16 : decode cX5_take 16 = .ok (.iconst 1, 1) := by decide +kernel
theorem dX5_take_17 : decode cX5_take 17 = .ok (.invokevirtual 89, 3) := by decide +kernel
theorem dX5_take_20 : decode cX5_take 20 = .ok (.return_, 1) := by decide +kernel
theorem dX5_takeSign_0 : decode cX5_takeSign 0 = .ok (.aload_n 0, 1) := by decide +kernel
theorem dX5_takeSign_1 : decode cX5_takeSign 1 = .ok (.getfield 23, 3) := by decide +kernel
theorem dX5_takeSign_4 : decode cX5_takeSign 4 = .ok (.ifCond .eq 4, 3) := by decide +kernel
theorem dX5_takeSign_7 : decode cX5_takeSign 7 = .ok (.return_, 1) := by decide +kernel
theorem dX5_takeSign_8 : decode cX5_takeSign 8 = .ok (.aload_n 0, 1) := by decide +kernel
theorem dX5_takeSign_9 : decode cX5_takeSign 9 = .ok (.getfield 41, 3) := by decide +kernel
theorem dX5_takeSign_12 : decode cX5_takeSign 12 = .ok (.iconst 3, 1) := by decide +kernel
theorem dX5_takeSign_13 : decode cX5_takeSign 13 = .ok (.if_icmp .ne 10, 3) := by decide +kernel
theorem dX5_takeSign_16 : decode cX5_takeSign 16 = .ok (.aload_n 0, 1) := by decide +kernel
theorem dX5_takeSign_17 : decode cX5_takeSign 17 = .ok (.invokevirtual 38, 3) := by decide +kernel
theorem dX5_takeSign_20 : decode cX5_takeSign 20 = .ok (.goto 8, 3) := by decide +kernel
theorem dX5_takeSign_23 : decode cX5_takeSign 23 = .ok (.aload_n 0, 1) := by decide +kernel
theorem dX5_takeSign_24 : decode cX5_takeSign 24 = .ok (.iconst 1, 1) := by decide +kernel
theorem dX5_takeSign_25 : decode cX5_takeSign 25 = .ok (.invokevirtual 89, 3) := by decide +kernel
theorem dX5_takeSign_28 : decode cX5_takeSign 28 = .ok (.return_, 1) := by decide +kernel
theorem dX5_take__0 : decode cX5_take_ 0 = .ok (.aload_n 0, 1) := by decide +kernel
theorem dX5_take__1 : decode cX5_take_ 1 = .ok (.getfield 23, 3) := by decide +kernel
theorem dX5_take__4 : decode cX5_take_ 4 = .ok (.ifCond .ne 19, 3) := by decide +kernel
theorem dX5_take__7 : decode cX5_take_ 7 = .ok (.aload_n 0, 1) := by decide +kernel
theorem dX5_take__8 : decode cX5_take_ 8 = .ok (.getfield 41, 3) := by decide +kernel
theorem dX5_take__11 : decode cX5_take_ 11 = .ok (.iconst 2, 1) := by decide +kernel
theorem dX5_take__12 : decode cX5_take_ 12 = .ok (.if_icmp .eq 11, 3) := by decide +kernel
theorem dX5_take__15 : decode cX5_take_ 15 = .ok (.aload_n 0, 1) := by decide +kernel
theorem dX5_take__16 : decode cX5_take_ 16 = .ok (.iconst 1, 1) := by decide +kernel
theorem dX5_take__17 : decode cX5_take_ 17 = .ok (.invokevirtual 89, 3) := by decide +kernel
theorem dX5_take__20 : decode cX5_take_ 20 = .ok (.goto 31, 3) := by decide +kernel
theorem dX5_take__23 : decode cX5_take_ 23 = .ok (.aload_n 0, 1) := by decide +kernel
theorem dX5_take__24 : decode cX5_take_ 24 = .ok (.getfield 23, 3) := by decide +kernel
theorem dX5_take__27 : decode cX5_take_ 27 = .ok (.ifCond .ne 24, 3) := by decide +kernel
theorem dX5_take__30 : decode cX5_take_ 30 = .ok (.aload_n 0, 1) := by decide +kernel
theorem dX5_take__31 : decode cX5_take_ 31 = .ok (.getfield 72, 3) := by decide +kernel
theorem dX5_take__34 : decode cX5_take_ 34 = .ok (.iload_n 1, 1) := by decide +kernel
theorem dX5_take__35 : decode cX5_take_ 35 = .ok (.if_icmp .lt 11, 3) := by decide +kernel
theorem dX5_take__38 : decode cX5_take_ 38 = .ok (.aload_n 0, 1) := by decide +kernel
theorem dX5_take__39 : decode cX5_take_ 39 = .ok (.getfield 72, 3) := by decide +kernel
theorem dX5_take__42 : decode cX5_take_ 42 = .ok (.iload_n 2, 1) := by decide +kernel
theorem dX5_take__43 : decode cX5_take_ 43 = .ok (.if_icmp .le 8, 3) := by decide +kernel
theorem dX5_take__46 : decode cX5_take_ 46 = .ok (.aload_n 0, 1) := by decide +kernel
theorem dX5_take__47 : decode cX5_take_ 47 = .ok (.iconst 2, 1) := by decide +kernel
theorem dX5_take__48 : decode cX5_take_ 48 = .ok (.invokevirtual 89, 3) := by decide +kernel
theorem dX5_take__51 : decode cX5_take_ 51 = .ok (.aload_n 0, 1) := by decide +kernel
theorem dX5_take__52 : decode cX5_take_ 52 = .ok (.getfield 23, 3) := by decide +kernel
theorem dX5_take__55 : decode cX5_take_ 55 = .ok (.ifCond .eq 5, 3) := by decide +kernel
theorem dX5_take__58 : decode cX5_take_ 58 = .ok (.iconst (-1), 1) := by decide +kernel
theorem dX5_take__59 : decode cX5_take_ 59 = .ok (.ireturn, 1) := by decide +kernel
theorem dX5_take__60 : decode cX5_take_ 60 = .ok (.aload_n 0, 1) := by decide +kernel
theorem dX5_take__61 : decode cX5_take_ 61 = .ok (.getfield 72, 3) := by decide +kernel
theorem dX5_take__64 : decode cX5_take_ 64 = .ok (.istore_n 3, 1) := by decide +kernel
theorem dX5_take__65 : decode cX5_take_ 65 = .ok (.aload_n 0, 1) := by decide +kernel
theorem dX5_take__66 : decode cX5_take_ 66 = .ok (.invokevirtual 38, 3) := by decide +kernel
theorem dX5_take__69 : decode cX5_take_ 69 = .ok (.iload_n 3, 1) := by decide +kernel
theorem dX5_take__70 : decode cX5_take_ 70 = .ok (.ireturn, 1) := by decide +kernel
theorem dX5_takeNamed_0 : decode cX5_takeNamed 0 = .ok (.aload_n 0, 1) := by decide +kernel
theorem dX5_takeNamed_1 : decode cX5_takeNamed 1 = .ok (.aload_n 1, 1) := by decide +kernel
theorem dX5_takeNamed_2 : decode cX5_takeNamed 2 = .ok (.invokevirtual 93, 3) := by decide +kernel
theorem dX5_takeNamed_5 : decode cX5_takeNamed 5 = .ok (.aload_n 0, 1) := by decide +kernel
theorem dX5_takeNamed_6 : decode cX5_takeNamed 6 = .ok (.iload_n 2, 1) := by decide +kernel
theorem dX5_takeNamed_7 : decode cX5_takeNamed 7 = .ok (.iload_n 3, 1) := by decide +kernel
theorem dX5_takeNamed_8 : decode cX5_takeNamed 8 = .ok (.invokevirtual 97, 3) := by decide +kernel
theorem dX5_takeNamed_11 : decode cX5_takeNamed 11 = .ok (.ireturn, 1) := by decide +kernel
theorem dX5_readLine_0 : decode cX5_readLine 0 = .ok (.aload_n 0, 1) := by decide +kernel
theorem dX5_readLine_1 : decode cX5_readLine 1 = .ok (.getfield 19, 3) := by decide +kernel
theorem dX5_readLine_4 : decode cX5_readLine 4 = .ok (.getfield 99, 3) := by decide +kernel
theorem dX5_readLine_7 : decode cX5_readLine 7 = .ok (.ifCond .ne 10, 3) := by decide +kernel
theorem dX5_readLine_10 : decode cX5_readLine 10 = .ok (.aload_n 0, 1) := by decide +kernel
theorem dX5_readLine_11 : decode cX5_readLine 11 = .ok (.invokevirtual 102, 3) := by decide +kernel
theorem dX5_readLine_14 : decode cX5_readLine 14 = .ok (.goto 123, 3) := by decide +kernel
theorem dX5_readLine_17 : decode cX5_readLine 17 = .ok (.aload_n 0, 1) := by decide +kernel
theorem dX5_readLine_18 : decode cX5_readLine 18 = .ok (.ldc 105, 2) := by decide +kernel
theorem dX5_readLine_20 : decode cX5_readLine 20 = .ok (.invokevirtual 107, 3) := by decide +kernel
theorem dX5_readLine_23 : decode cX5_readLine 23 = .ok (.ifCond .eq 10, 3) := by decide +kernel
theorem dX5_readLine_26 : decode cX5_readLine 26 = .ok (.aload_n 0, 1) := by decide +kernel
theorem dX5_readLine_27 : decode cX5_readLine 27 = .ok (.invokevirtual 110, 3) := by decide +kernel
theorem dX5_readLine_30 : decode cX5_readLine 30 = .ok (.goto 107, 3) := by decide +kernel
theorem dX5_readLine_33 : decode cX5_readLine 33 = .ok (.aload_n 0, 1) := by decide +kernel
theorem dX5_readLine_34 : decode cX5_readLine 34 = .ok (.ldc 113, 2) := by decide +kernel
theorem dX5_readLine_36 : decode cX5_readLine 36 = .ok (.invokevirtual 85, 3) := by decide +kernel
theorem dX5_readLine_39 : decode cX5_readLine 39 = .ok (.ifCond .eq 10, 3) := by decide +kernel
theorem dX5_readLine_42 : decode cX5_readLine 42 = .ok (.aload_n 0, 1) := by decide +kernel
theorem dX5_readLine_43 : decode cX5_readLine 43 = .ok (.invokevirtual 115, 3) := by decide +kernel
theorem dX5_readLine_46 : decode cX5_readLine 46 = .ok (.goto 91, 3) := by decide +kernel
theorem dX5_readLine_49 : decode cX5_readLine 49 = .ok (.aload_n 0, 1) := by decide +kernel
theorem dX5_readLine_50 : decode cX5_readLine 50 = .ok (.ldc 118, 2) := by decide +kernel
theorem dX5_readLine_52 : decode cX5_readLine 52 = .ok (.invokevirtual 107, 3) := by decide +kernel
theorem dX5_readLine_55 : decode cX5_readLine 55 = .ok (.ifCond .eq 10, 3) := by decide +kernel
theorem dX5_readLine_58 : decode cX5_readLine 58 = .ok (.aload_n 0, 1) := by decide +kernel
theorem dX5_readLine_59 : decode cX5_readLine 59 = .ok (.invokevirtual 120, 3) := by decide +kernel
theorem dX5_readLine_62 : decode cX5_readLine 62 = .ok (.goto 75, 3) := by decide +kernel
theorem dX5_readLine_65 : decode cX5_readLine 65 = .ok (.aload_n 0, 1) := by decide +kernel
theorem dX5_readLine_66 : decode cX5_readLine 66 = .ok (.ldc 123, 2) := by decide +kernel
theorem dX5_readLine_68 : decode cX5_readLine 68 = .ok (.invokevirtual 107, 3) := by decide +kernel
theorem dX5_readLine_71 : decode cX5_readLine 71 = .ok (.ifCond .eq 29, 3) := by decide +kernel
theorem dX5_readLine_74 : decode cX5_readLine 74 = .ok (.aload_n 0, 1) := by decide +kernel
theorem dX5_readLine_75 : decode cX5_readLine 75 = .ok (.getfield 19, 3) := by decide +kernel
theorem dX5_readLine_78 : decode cX5_readLine 78 = .ok (.aload_n 0, 1) := by decide +kernel
theorem dX5_readLine_79 : decode cX5_readLine 79 = .ok (.ldc 125, 2) := by decide +kernel
theorem dX5_readLine_81 : decode cX5_readLine 81 = .ok (.iconst 0, 1) := by decide +kernel
theorem dX5_readLine_82 : decode cX5_readLine 82 = .ok (.aload_n 0, 1) := by decide +kernel
theorem dX5_readLine_83 : decode cX5_readLine 83 = .ok (.getfield 19, 3) := by decide +kernel
theorem dX5_readLine_86 : decode cX5_readLine 86 = .ok (.getfield 127, 3) := by decide +kernel
theorem dX5_readLine_89 : decode cX5_readLine 89 = .ok (.iconst 1, 1) := by decide +kernel
theorem dX5_readLine_90 : decode cX5_readLine 90 = .ok (.isub, 1) := by decide +kernel
theorem dX5_readLine_91 : decode cX5_readLine 91 = .ok (.invokevirtual 130, 3) := by decide +kernel
theorem dX5_readLine_94 : decode cX5_readLine 94 = .ok (.putfield 134, 3) := by decide +kernel
theorem dX5_readLine_97 : decode cX5_readLine 97 = .ok (.goto 40, 3) := by decide +kernel
theorem dX5_readLine_100 : decode cX5_readLine 100 = .ok (.aload_n 0, 1) := by decide +kernel
theorem dX5_readLine_101 : decode cX5_readLine 101 = .ok (.ldc 137, 2) := by decide +kernel
theorem dX5_readLine_103 : decode cX5_readLine 103 = .ok (.invokevirtual 85, 3) := by decide +kernel
theorem dX5_readLine_106 : decode cX5_readLine 106 = .ok (.ifCond .eq 10, 3) := by decide +kernel
theorem dX5_readLine_109 : decode cX5_readLine 109 = .ok (.aload_n 0, 1) := by decide +kernel
theorem dX5_readLine_110 : decode cX5_readLine 110 = .ok (.invokevirtual 139, 3) := by decide +kernel
theorem dX5_readLine_113 : decode cX5_readLine 113 = .ok (.goto 24, 3) := by decide +kernel
theorem dX5_readLine_116 : decode cX5_readLine 116 = .ok (.aload_n 0, 1) := by decide +kernel
theorem dX5_readLine_117 : decode cX5_readLine 117 = .ok (.ldc 142, 2) := by decide +kernel
theorem dX5_readLine_119 : decode cX5_readLine 119 = .ok (.invokevirtual 85, 3) := by decide +kernel
theorem dX5_readLine_122 : decode cX5_readLine 122 = .ok (.ifCond .eq 10, 3) := by decide +kernel
theorem dX5_readLine_125 : decode cX5_readLine 125 = .ok (.aload_n 0, 1) := by decide +kernel
theorem dX5_readLine_126 : decode cX5_readLine 126 = .ok (.invokevirtual 144, 3) := by decide +kernel
theorem dX5_readLine_129 : decode cX5_readLine 129 = .ok (.goto 8, 3) := by decide +kernel
theorem dX5_readLine_132 : decode cX5_readLine 132 = .ok (.aload_n 0, 1) := by decide +kernel
theorem dX5_readLine_133 : decode cX5_readLine 133 = .ok (.iconst 1, 1) := by decide +kernel
theorem dX5_readLine_134 : decode cX5_readLine 134 = .ok (.invokevirtual 89, 3) := by decide +kernel
theorem dX5_readLine_137 : decode cX5_readLine 137 = .ok (.aload_n 0, 1) := by decide +kernel
theorem dX5_readLine_138 : decode cX5_readLine 138 = .ok (.invokevirtual 147, 3) := by decide +kernel
theorem dX5_readLine_141 : decode cX5_readLine 141 = .ok (.aload_n 0, 1) := by decide +kernel
theorem dX5_readLine_142 : decode cX5_readLine 142 = .ok (.getfield 19, 3) := by decide +kernel
theorem dX5_readLine_145 : decode cX5_readLine 145 = .ok (.dup, 1) := by decide +kernel
theorem dX5_readLine_146 : decode cX5_readLine 146 = .ok (.getfield 99, 3) := by decide +kernel
theorem dX5_readLine_149 : decode cX5_readLine 149 = .ok (.iconst 1, 1) := by decide +kernel
theorem dX5_readLine_150 : decode cX5_readLine 150 = .ok (.iadd, 1) := by decide +kernel
theorem dX5_readLine_151 : decode cX5_readLine 151 = .ok (.putfield 99, 3) := by decide +kernel
theorem dX5_readLine_154 : decode cX5_readLine 154 = .ok (.return_, 1) := by decide +kernel
theorem dX5_readMoor_0 : decode cX5_readMoor 0 = .ok (.aload_n 0, 1) := by decide +kernel
theorem dX5_readMoor_1 : decode cX5_readMoor 1 = .ok (.ldc 150, 2) := by decide +kernel
theorem dX5_readMoor_3 : decode cX5_readMoor 3 = .ok (.invokevirtual 93, 3) := by decide +kernel
theorem dX5_readMoor_6 : decode cX5_readMoor 6 = .ok (.aload_n 0, 1) := by decide +kernel
theorem dX5_readMoor_7 : decode cX5_readMoor 7 = .ok (.getfield 19, 3) := by decide +kernel
theorem dX5_readMoor_10 : decode cX5_readMoor 10 = .ok (.aload_n 0, 1) := by decide +kernel
theorem dX5_readMoor_11 : decode cX5_readMoor 11 = .ok (.ldc 152, 2) := by decide +kernel
theorem dX5_readMoor_13 : decode cX5_readMoor 13 = .ok (.iconst 1, 1) := by decide +kernel
theorem dX5_readMoor_14 : decode cX5_readMoor 14 = .ok (.iconst 4, 1) := by decide +kernel
theorem dX5_readMoor_15 : decode cX5_readMoor 15 = .ok (.invokevirtual 130, 3) := by decide +kernel
theorem dX5_readMoor_18 : decode cX5_readMoor 18 = .ok (.putfield 154, 3) := by decide +kernel
theorem dX5_readMoor_21 : decode cX5_readMoor 21 = .ok (.aload_n 0, 1) := by decide +kernel
theorem dX5_readMoor_22 : decode cX5_readMoor 22 = .ok (.getfield 19, 3) := by decide +kernel
theorem dX5_readMoor_25 : decode cX5_readMoor 25 = .ok (.aload_n 0, 1) := by decide +kernel
theorem dX5_readMoor_26 : decode cX5_readMoor 26 = .ok (.ldc 156, 2) := by decide +kernel
theorem dX5_readMoor_28 : decode cX5_readMoor 28 = .ok (.iconst 1, 1) := by decide +kernel
theorem dX5_readMoor_29 : decode cX5_readMoor 29 = .ok (.bipush 9, 2) := by decide +kernel
theorem dX5_readMoor_31 : decode cX5_readMoor 31 = .ok (.invokevirtual 130, 3) := by decide +kernel
theorem dX5_readMoor_34 : decode cX5_readMoor 34 = .ok (.putfield 127, 3) := by decide +kernel
theorem dX5_readMoor_37 : decode cX5_readMoor 37 = .ok (.aload_n 0, 1) := by decide +kernel
theorem dX5_readMoor_38 : decode cX5_readMoor 38 = .ok (.getfield 19, 3) := by decide +kernel
theorem dX5_readMoor_41 : decode cX5_readMoor 41 = .ok (.getfield 157, 3) := by decide +kernel
theorem dX5_readMoor_44 : decode cX5_readMoor 44 = .ok (.iconst 3, 1) := by decide +kernel
theorem dX5_readMoor_45 : decode cX5_readMoor 45 = .ok (.aload_n 0, 1) := by decide +kernel
theorem dX5_readMoor_46 : decode cX5_readMoor 46 = .ok (.ldc 160, 2) := by decide +kernel
theorem dX5_readMoor_48 : decode cX5_readMoor 48 = .ok (.iconst 2, 1) := by decide +kernel
theorem dX5_readMoor_49 : decode cX5_readMoor 49 = .ok (.bipush 100, 2) := by decide +kernel
theorem dX5_readMoor_51 : decode cX5_readMoor 51 = .ok (.invokevirtual 130, 3) := by decide +kernel
theorem dX5_readMoor_54 : decode cX5_readMoor 54 = .ok (.iastore, 1) := by decide +kernel
theorem dX5_readMoor_55 : decode cX5_readMoor 55 = .ok (.aload_n 0, 1) := by decide +kernel
theorem dX5_readMoor_56 : decode cX5_readMoor 56 = .ok (.getfield 19, 3) := by decide +kernel
theorem dX5_readMoor_59 : decode cX5_readMoor 59 = .ok (.getfield 157, 3) := by decide +kernel
theorem dX5_readMoor_62 : decode cX5_readMoor 62 = .ok (.iconst 4, 1) := by decide +kernel
theorem dX5_readMoor_63 : decode cX5_readMoor 63 = .ok (.aload_n 0, 1) := by decide +kernel
theorem dX5_readMoor_64 : decode cX5_readMoor 64 = .ok (.ldc 162, 2) := by decide +kernel
theorem dX5_readMoor_66 : decode cX5_readMoor 66 = .ok (.iconst 0, 1) := by decide +kernel
theorem dX5_readMoor_67 : decode cX5_readMoor 67 = .ok (.sipush 999, 3) := by decide +kernel
theorem dX5_readMoor_70 : decode cX5_readMoor 70 = .ok (.invokevirtual 130, 3) := by decide +kernel
theorem dX5_readMoor_73 : decode cX5_readMoor 73 = .ok (.iastore, 1) := by decide +kernel
theorem dX5_readMoor_74 : decode cX5_readMoor 74 = .ok (.aload_n 0, 1) := by decide +kernel
theorem dX5_readMoor_75 : decode cX5_readMoor 75 = .ok (.getfield 19, 3) := by decide +kernel
theorem dX5_readMoor_78 : decode cX5_readMoor 78 = .ok (.iconst 1, 1) := by decide +kernel
theorem dX5_readMoor_79 : decode cX5_readMoor 79 = .ok (.putfield 164, 3) := by decide +kernel
theorem dX5_readMoor_82 : decode cX5_readMoor 82 = .ok (.return_, 1) := by decide +kernel
theorem dX5_readLaw_0 : decode cX5_readLaw 0 = .ok (.aload_n 0, 1) := by decide +kernel
theorem dX5_readLaw_1 : decode cX5_readLaw 1 = .ok (.ldc 152, 2) := by decide +kernel
theorem dX5_readLaw_3 : decode cX5_readLaw 3 = .ok (.invokevirtual 107, 3) := by decide +kernel
theorem dX5_readLaw_6 : decode cX5_readLaw 6 = .ok (.ifCond .eq 16, 3) := by decide +kernel
theorem dX5_readLaw_9 : decode cX5_readLaw 9 = .ok (.aload_n 0, 1) := by decide +kernel
theorem dX5_readLaw_10 : decode cX5_readLaw 10 = .ok (.getfield 19, 3) := by decide +kernel
theorem dX5_readLaw_13 : decode cX5_readLaw 13 = .ok (.getfield 157, 3) := by decide +kernel
theorem dX5_readLaw_16 : decode cX5_readLaw 16 = .ok (.iconst 0, 1) := by decide +kernel
theorem dX5_readLaw_17 : decode cX5_readLaw 17 = .ok (.iconst 0, 1) := by decide +kernel
theorem dX5_readLaw_18 : decode cX5_readLaw 18 = .ok (.iastore, 1) := by decide +kernel
theorem dX5_readLaw_19 : decode cX5_readLaw 19 = .ok (.goto 118, 3) := by decide +kernel
theorem dX5_readLaw_22 : decode cX5_readLaw 22 = .ok (.aload_n 0, 1) := by decide +kernel
theorem dX5_readLaw_23 : decode cX5_readLaw 23 = .ok (.ldc 166, 2) := by decide +kernel
theorem dX5_readLaw_25 : decode cX5_readLaw 25 = .ok (.invokevirtual 107, 3) := by decide +kernel
theorem dX5_readLaw_28 : decode cX5_readLaw 28 = .ok (.ifCond .eq 16, 3) := by decide +kernel
theorem dX5_readLaw_31 : decode cX5_readLaw 31 = .ok (.aload_n 0, 1) := by decide +kernel
theorem dX5_readLaw_32 : decode cX5_readLaw 32 = .ok (.getfield 19, 3) := by decide +kernel
theorem dX5_readLaw_35 : decode cX5_readLaw 35 = .ok (.getfield 157, 3) := by decide +kernel
theorem dX5_readLaw_38 : decode cX5_readLaw 38 = .ok (.iconst 0, 1) := by decide +kernel
theorem dX5_readLaw_39 : decode cX5_readLaw 39 = .ok (.iconst 1, 1) := by decide +kernel
theorem dX5_readLaw_40 : decode cX5_readLaw 40 = .ok (.iastore, 1) := by decide +kernel
theorem dX5_readLaw_41 : decode cX5_readLaw 41 = .ok (.goto 96, 3) := by decide +kernel
theorem dX5_readLaw_44 : decode cX5_readLaw 44 = .ok (.aload_n 0, 1) := by decide +kernel
theorem dX5_readLaw_45 : decode cX5_readLaw 45 = .ok (.ldc 168, 2) := by decide +kernel
theorem dX5_readLaw_47 : decode cX5_readLaw 47 = .ok (.invokevirtual 107, 3) := by decide +kernel
theorem dX5_readLaw_50 : decode cX5_readLaw 50 = .ok (.ifCond .eq 16, 3) := by decide +kernel
theorem dX5_readLaw_53 : decode cX5_readLaw 53 = .ok (.aload_n 0, 1) := by decide +kernel
theorem dX5_readLaw_54 : decode cX5_readLaw 54 = .ok (.getfield 19, 3) := by decide +kernel
theorem dX5_readLaw_57 : decode cX5_readLaw 57 = .ok (.getfield 157, 3) := by decide +kernel
theorem dX5_readLaw_60 : decode cX5_readLaw 60 = .ok (.iconst 1, 1) := by decide +kernel
theorem dX5_readLaw_61 : decode cX5_readLaw 61 = .ok (.iconst 0, 1) := by decide +kernel
theorem dX5_readLaw_62 : decode cX5_readLaw 62 = .ok (.iastore, 1) := by decide +kernel
theorem dX5_readLaw_63 : decode cX5_readLaw 63 = .ok (.goto 74, 3) := by decide +kernel
theorem dX5_readLaw_66 : decode cX5_readLaw 66 = .ok (.aload_n 0, 1) := by decide +kernel
theorem dX5_readLaw_67 : decode cX5_readLaw 67 = .ok (.ldc 170, 2) := by decide +kernel
theorem dX5_readLaw_69 : decode cX5_readLaw 69 = .ok (.invokevirtual 107, 3) := by decide +kernel
theorem dX5_readLaw_72 : decode cX5_readLaw 72 = .ok (.ifCond .eq 16, 3) := by decide +kernel
theorem dX5_readLaw_75 : decode cX5_readLaw 75 = .ok (.aload_n 0, 1) := by decide +kernel
theorem dX5_readLaw_76 : decode cX5_readLaw 76 = .ok (.getfield 19, 3) := by decide +kernel
theorem dX5_readLaw_79 : decode cX5_readLaw 79 = .ok (.getfield 157, 3) := by decide +kernel
theorem dX5_readLaw_82 : decode cX5_readLaw 82 = .ok (.iconst 1, 1) := by decide +kernel
theorem dX5_readLaw_83 : decode cX5_readLaw 83 = .ok (.iconst 1, 1) := by decide +kernel
theorem dX5_readLaw_84 : decode cX5_readLaw 84 = .ok (.iastore, 1) := by decide +kernel
theorem dX5_readLaw_85 : decode cX5_readLaw 85 = .ok (.goto 52, 3) := by decide +kernel
theorem dX5_readLaw_88 : decode cX5_readLaw 88 = .ok (.aload_n 0, 1) := by decide +kernel
theorem dX5_readLaw_89 : decode cX5_readLaw 89 = .ok (.ldc 172, 2) := by decide +kernel
theorem dX5_readLaw_91 : decode cX5_readLaw 91 = .ok (.invokevirtual 107, 3) := by decide +kernel
theorem dX5_readLaw_94 : decode cX5_readLaw 94 = .ok (.ifCond .eq 16, 3) := by decide +kernel
theorem dX5_readLaw_97 : decode cX5_readLaw 97 = .ok (.aload_n 0, 1) := by decide +kernel
theorem dX5_readLaw_98 : decode cX5_readLaw 98 = .ok (.getfield 19, 3) := by decide +kernel
theorem dX5_readLaw_101 : decode cX5_readLaw 101 = .ok (.getfield 157, 3) := by decide +kernel
theorem dX5_readLaw_104 : decode cX5_readLaw 104 = .ok (.iconst 2, 1) := by decide +kernel
theorem dX5_readLaw_105 : decode cX5_readLaw 105 = .ok (.iconst 0, 1) := by decide +kernel
theorem dX5_readLaw_106 : decode cX5_readLaw 106 = .ok (.iastore, 1) := by decide +kernel
theorem dX5_readLaw_107 : decode cX5_readLaw 107 = .ok (.goto 30, 3) := by decide +kernel
theorem dX5_readLaw_110 : decode cX5_readLaw 110 = .ok (.aload_n 0, 1) := by decide +kernel
theorem dX5_readLaw_111 : decode cX5_readLaw 111 = .ok (.ldc 174, 2) := by decide +kernel
theorem dX5_readLaw_113 : decode cX5_readLaw 113 = .ok (.invokevirtual 107, 3) := by decide +kernel
theorem dX5_readLaw_116 : decode cX5_readLaw 116 = .ok (.ifCond .eq 16, 3) := by decide +kernel
theorem dX5_readLaw_119 : decode cX5_readLaw 119 = .ok (.aload_n 0, 1) := by decide +kernel
theorem dX5_readLaw_120 : decode cX5_readLaw 120 = .ok (.getfield 19, 3) := by decide +kernel
theorem dX5_readLaw_123 : decode cX5_readLaw 123 = .ok (.getfield 157, 3) := by decide +kernel
theorem dX5_readLaw_126 : decode cX5_readLaw 126 = .ok (.iconst 2, 1) := by decide +kernel
theorem dX5_readLaw_127 : decode cX5_readLaw 127 = .ok (.iconst 1, 1) := by decide +kernel
theorem dX5_readLaw_128 : decode cX5_readLaw 128 = .ok (.iastore, 1) := by decide +kernel
theorem dX5_readLaw_129 : decode cX5_readLaw 129 = .ok (.goto 8, 3) := by decide +kernel
theorem dX5_readLaw_132 : decode cX5_readLaw 132 = .ok (.aload_n 0, 1) := by decide +kernel
theorem dX5_readLaw_133 : decode cX5_readLaw 133 = .ok (.iconst 1, 1) := by decide +kernel
theorem dX5_readLaw_134 : decode cX5_readLaw 134 = .ok (.invokevirtual 89, 3) := by decide +kernel
theorem dX5_readLaw_137 : decode cX5_readLaw 137 = .ok (.return_, 1) := by decide +kernel
theorem dX5_readOwners_0 : decode cX5_readOwners 0 = .ok (.aload_n 0, 1) := by decide +kernel
theorem dX5_readOwners_1 : decode cX5_readOwners 1 = .ok (.getfield 26, 3) := by decide +kernel
theorem dX5_readOwners_4 : decode cX5_readOwners 4 = .ok (.ifCond .ne 13, 3) := by decide +kernel
theorem dX5_readOwners_7 : decode cX5_readOwners 7 = .ok (.aload_n 0, 1) := by decide +kernel
theorem dX5_readOwners_8 : decode cX5_readOwners 8 = .ok (.getfield 19, 3) := by decide +kernel
theorem dX5_readOwners_11 : decode cX5_readOwners 11 = .ok (.getfield 176, 3) := by decide +kernel
theorem dX5_readOwners_14 : decode cX5_readOwners 14 = .ok (.ifCond .le 8, 3) := by decide +kernel
theorem dX5_readOwners_17 : decode cX5_readOwners 17 = .ok (.aload_n 0, 1) := by decide +kernel
theorem dX5_readOwners_18 : decode cX5_readOwners 18 = .ok (.iconst 2, 1) := by decide +kernel
theorem dX5_readOwners_19 : decode cX5_readOwners 19 = .ok (.invokevirtual 89, 3) := by decide +kernel
theorem dX5_readOwners_22 : decode cX5_readOwners 22 = .ok (.aload_n 0, 1) := by decide +kernel
theorem dX5_readOwners_23 : decode cX5_readOwners 23 = .ok (.getfield 19, 3) := by decide +kernel
theorem dX5_readOwners_26 : decode cX5_readOwners 26 = .ok (.aload_n 0, 1) := by decide +kernel
theorem dX5_readOwners_27 : decode cX5_readOwners 27 = .ok (.ldc 113, 2) := by decide +kernel
theorem dX5_readOwners_29 : decode cX5_readOwners 29 = .ok (.iconst 1, 1) := by decide +kernel
theorem dX5_readOwners_30 : decode cX5_readOwners 30 = .ok (.iconst 5, 1) := by decide +kernel
theorem dX5_readOwners_31 : decode cX5_readOwners 31 = .ok (.invokevirtual 130, 3) := by decide +kernel
theorem dX5_readOwners_34 : decode cX5_readOwners 34 = .ok (.putfield 164, 3) := by decide +kernel
theorem dX5_readOwners_37 : decode cX5_readOwners 37 = .ok (.aload_n 0, 1) := by decide +kernel
theorem dX5_readOwners_38 : decode cX5_readOwners 38 = .ok (.iconst 1, 1) := by decide +kernel
theorem dX5_readOwners_39 : decode cX5_readOwners 39 = .ok (.putfield 26, 3) := by decide +kernel
theorem dX5_readOwners_42 : decode cX5_readOwners 42 = .ok (.return_, 1) := by decide +kernel
theorem dX5_readStart_0 : decode cX5_readStart 0 = .ok (.aload_n 0, 1) := by decide +kernel
theorem dX5_readStart_1 : decode cX5_readStart 1 = .ok (.iconst 0, 1) := by decide +kernel
theorem dX5_readStart_2 : decode cX5_readStart 2 = .ok (.aload_n 0, 1) := by decide +kernel
theorem dX5_readStart_3 : decode cX5_readStart 3 = .ok (.getfield 19, 3) := by decide +kernel
theorem dX5_readStart_6 : decode cX5_readStart 6 = .ok (.getfield 154, 3) := by decide +kernel
theorem dX5_readStart_9 : decode cX5_readStart 9 = .ok (.iconst 1, 1) := by decide +kernel
theorem dX5_readStart_10 : decode cX5_readStart 10 = .ok (.isub, 1) := by decide +kernel
theorem dX5_readStart_11 : decode cX5_readStart 11 = .ok (.invokevirtual 97, 3) := by decide +kernel
theorem dX5_readStart_14 : decode cX5_readStart 14 = .ok (.istore_n 1, 1) := by decide +kernel
theorem dX5_readStart_15 : decode cX5_readStart 15 = .ok (.aload_n 0, 1) := by decide +kernel
theorem dX5_readStart_16 : decode cX5_readStart 16 = .ok (.ldc 179, 2) := by decide +kernel
theorem dX5_readStart_18 : decode cX5_readStart 18 = .ok (.iconst 0, 1) := by decide +kernel
theorem dX5_readStart_19 : decode cX5_readStart 19 = .ok (.aload_n 0, 1) := by decide +kernel
theorem dX5_readStart_20 : decode cX5_readStart 20 = .ok (.getfield 19, 3) := by decide +kernel
theorem dX5_readStart_23 : decode cX5_readStart 23 = .ok (.getfield 157, 3) := by decide +kernel
theorem dX5_readStart_26 : decode cX5_readStart 26 = .ok (.iconst 3, 1) := by decide +kernel
theorem dX5_readStart_27 : decode cX5_readStart 27 = .ok (.iaload, 1) := by decide +kernel
theorem dX5_readStart_28 : decode cX5_readStart 28 = .ok (.iconst 1, 1) := by decide +kernel
theorem dX5_readStart_29 : decode cX5_readStart 29 = .ok (.isub, 1) := by decide +kernel
theorem dX5_readStart_30 : decode cX5_readStart 30 = .ok (.invokevirtual 130, 3) := by decide +kernel
theorem dX5_readStart_33 : decode cX5_readStart 33 = .ok (.istore_n 2, 1) := by decide +kernel
theorem dX5_readStart_34 : decode cX5_readStart 34 = .ok (.aload_n 0, 1) := by decide +kernel
theorem dX5_readStart_35 : decode cX5_readStart 35 = .ok (.getfield 23, 3) := by decide +kernel
theorem dX5_readStart_38 : decode cX5_readStart 38 = .ok (.ifCond .ne 13, 3) := by decide +kernel
theorem dX5_readStart_41 : decode cX5_readStart 41 = .ok (.aload_n 0, 1) := by decide +kernel
theorem dX5_readStart_42 : decode cX5_readStart 42 = .ok (.getfield 19, 3) := by decide +kernel
theorem dX5_readStart_45 : decode cX5_readStart 45 = .ok (.getfield 181, 3) := by decide +kernel
theorem dX5_readStart_48 : decode cX5_readStart 48 = .ok (.iload_n 1, 1) := by decide +kernel
theorem dX5_readStart_49 : decode cX5_readStart 49 = .ok (.iload_n 2, 1) := by decide +kernel
theorem dX5_readStart_50 : decode cX5_readStart 50 = .ok (.iastore, 1) := by decide +kernel
theorem dX5_readStart_51 : decode cX5_readStart 51 = .ok (.return_, 1) := by decide +kernel
theorem dX5_readDrive_0 : decode cX5_readDrive 0 = .ok (.aload_n 0, 1) := by decide +kernel
theorem dX5_readDrive_1 : decode cX5_readDrive 1 = .ok (.getfield 19, 3) := by decide +kernel
theorem dX5_readDrive_4 : decode cX5_readDrive 4 = .ok (.getfield 176, 3) := by decide +kernel
theorem dX5_readDrive_7 : decode cX5_readDrive 7 = .ok (.bipush 12, 2) := by decide +kernel
theorem dX5_readDrive_9 : decode cX5_readDrive 9 = .ok (.if_icmp .lt 9, 3) := by decide +kernel
theorem dX5_readDrive_12 : decode cX5_readDrive 12 = .ok (.aload_n 0, 1) := by decide +kernel
theorem dX5_readDrive_13 : decode cX5_readDrive 13 = .ok (.iconst 3, 1) := by decide +kernel
theorem dX5_readDrive_14 : decode cX5_readDrive 14 = .ok (.invokevirtual 89, 3) := by decide +kernel
theorem dX5_readDrive_17 : decode cX5_readDrive 17 = .ok (.return_, 1) := by decide +kernel
theorem dX5_readDrive_18 : decode cX5_readDrive 18 = .ok (.aload_n 0, 1) := by decide +kernel
theorem dX5_readDrive_19 : decode cX5_readDrive 19 = .ok (.getfield 19, 3) := by decide +kernel
theorem dX5_readDrive_22 : decode cX5_readDrive 22 = .ok (.getfield 183, 3) := by decide +kernel
theorem dX5_readDrive_25 : decode cX5_readDrive 25 = .ok (.aload_n 0, 1) := by decide +kernel
theorem dX5_readDrive_26 : decode cX5_readDrive 26 = .ok (.getfield 19, 3) := by decide +kernel
theorem dX5_readDrive_29 : decode cX5_readDrive 29 = .ok (.getfield 176, 3) := by decide +kernel
theorem dX5_readDrive_32 : decode cX5_readDrive 32 = .ok (.aaload, 1) := by decide +kernel
theorem dX5_readDrive_33 : decode cX5_readDrive 33 = .ok (.astore_n 1, 1) := by decide +kernel
theorem dX5_readDrive_34 : decode cX5_readDrive 34 = .ok (.aload_n 1, 1) := by decide +kernel
theorem dX5_readDrive_35 : decode cX5_readDrive 35 = .ok (.aload_n 0, 1) := by decide +kernel
theorem dX5_readDrive_36 : decode cX5_readDrive 36 = .ok (.ldc 137, 2) := by decide +kernel
theorem dX5_readDrive_38 : decode cX5_readDrive 38 = .ok (.iconst 0, 1) := by decide +kernel
theorem dX5_readDrive_39 : decode cX5_readDrive 39 = .ok (.aload_n 0, 1) := by decide +kernel
theorem dX5_readDrive_40 : decode cX5_readDrive 40 = .ok (.getfield 19, 3) := by decide +kernel
theorem dX5_readDrive_43 : decode cX5_readDrive 43 = .ok (.getfield 164, 3) := by decide +kernel
theorem dX5_readDrive_46 : decode cX5_readDrive 46 = .ok (.iconst 1, 1) := by decide +kernel
theorem dX5_readDrive_47 : decode cX5_readDrive 47 = .ok (.isub, 1) := by decide +kernel
theorem dX5_readDrive_48 : decode cX5_readDrive 48 = .ok (.invokevirtual 130, 3) := by decide +kernel
theorem dX5_readDrive_51 : decode cX5_readDrive 51 = .ok (.putfield 186, 3) := by decide +kernel
theorem dX5_readDrive_54 : decode cX5_readDrive 54 = .ok (.aload_n 1, 1) := by decide +kernel
theorem dX5_readDrive_55 : decode cX5_readDrive 55 = .ok (.aload_n 0, 1) := by decide +kernel
theorem dX5_readDrive_56 : decode cX5_readDrive 56 = .ok (.ldc 191, 2) := by decide +kernel
theorem dX5_readDrive_58 : decode cX5_readDrive 58 = .ok (.iconst 0, 1) := by decide +kernel
theorem dX5_readDrive_59 : decode cX5_readDrive 59 = .ok (.aload_n 0, 1) := by decide +kernel
theorem dX5_readDrive_60 : decode cX5_readDrive 60 = .ok (.getfield 19, 3) := by decide +kernel
theorem dX5_readDrive_63 : decode cX5_readDrive 63 = .ok (.getfield 154, 3) := by decide +kernel
theorem dX5_readDrive_66 : decode cX5_readDrive 66 = .ok (.iconst 1, 1) := by decide +kernel
theorem dX5_readDrive_67 : decode cX5_readDrive 67 = .ok (.isub, 1) := by decide +kernel
theorem dX5_readDrive_68 : decode cX5_readDrive 68 = .ok (.invokevirtual 130, 3) := by decide +kernel
theorem dX5_readDrive_71 : decode cX5_readDrive 71 = .ok (.putfield 193, 3) := by decide +kernel
theorem dX5_readDrive_74 : decode cX5_readDrive 74 = .ok (.aload_n 1, 1) := by decide +kernel
theorem dX5_readDrive_75 : decode cX5_readDrive 75 = .ok (.aload_n 0, 1) := by decide +kernel
theorem dX5_readDrive_76 : decode cX5_readDrive 76 = .ok (.ldc 195, 2) := by decide +kernel
theorem dX5_readDrive_78 : decode cX5_readDrive 78 = .ok (.iconst 0, 1) := by decide +kernel
theorem dX5_readDrive_79 : decode cX5_readDrive 79 = .ok (.aload_n 0, 1) := by decide +kernel
theorem dX5_readDrive_80 : decode cX5_readDrive 80 = .ok (.getfield 19, 3) := by decide +kernel
theorem dX5_readDrive_83 : decode cX5_readDrive 83 = .ok (.getfield 127, 3) := by decide +kernel
theorem dX5_readDrive_86 : decode cX5_readDrive 86 = .ok (.iconst 1, 1) := by decide +kernel
theorem dX5_readDrive_87 : decode cX5_readDrive 87 = .ok (.isub, 1) := by decide +kernel
theorem dX5_readDrive_88 : decode cX5_readDrive 88 = .ok (.invokevirtual 130, 3) := by decide +kernel
theorem dX5_readDrive_91 : decode cX5_readDrive 91 = .ok (.putfield 197, 3) := by decide +kernel
theorem dX5_readDrive_94 : decode cX5_readDrive 94 = .ok (.aload_n 1, 1) := by decide +kernel
theorem dX5_readDrive_95 : decode cX5_readDrive 95 = .ok (.aload_n 0, 1) := by decide +kernel
theorem dX5_readDrive_96 : decode cX5_readDrive 96 = .ok (.ldc 200, 2) := by decide +kernel
theorem dX5_readDrive_98 : decode cX5_readDrive 98 = .ok (.iconst 0, 1) := by decide +kernel
theorem dX5_readDrive_99 : decode cX5_readDrive 99 = .ok (.bipush 23, 2) := by decide +kernel
theorem dX5_readDrive_101 : decode cX5_readDrive 101 = .ok (.invokevirtual 130, 3) := by decide +kernel
theorem dX5_readDrive_104 : decode cX5_readDrive 104 = .ok (.putfield 201, 3) := by decide +kernel
theorem dX5_readDrive_107 : decode cX5_readDrive 107 = .ok (.aload_n 1, 1) := by decide +kernel
theorem dX5_readDrive_108 : decode cX5_readDrive 108 = .ok (.aload_n 0, 1) := by decide +kernel
theorem dX5_readDrive_109 : decode cX5_readDrive 109 = .ok (.ldc 204, 2) := by decide +kernel
theorem dX5_readDrive_111 : decode cX5_readDrive 111 = .ok (.iconst 1, 1) := by decide +kernel
theorem dX5_readDrive_112 : decode cX5_readDrive 112 = .ok (.bipush 99, 2) := by decide +kernel
theorem dX5_readDrive_114 : decode cX5_readDrive 114 = .ok (.invokevirtual 130, 3) := by decide +kernel
theorem dX5_readDrive_117 : decode cX5_readDrive 117 = .ok (.putfield 206, 3) := by decide +kernel
theorem dX5_readDrive_120 : decode cX5_readDrive 120 = .ok (.aload_n 1, 1) := by decide +kernel
theorem dX5_readDrive_121 : decode cX5_readDrive 121 = .ok (.aload_n 0, 1) := by decide +kernel
theorem dX5_readDrive_122 : decode cX5_readDrive 122 = .ok (.ldc 123, 2) := by decide +kernel
theorem dX5_readDrive_124 : decode cX5_readDrive 124 = .ok (.invokevirtual 107, 3) := by decide +kernel
theorem dX5_readDrive_127 : decode cX5_readDrive 127 = .ok (.ifCond .eq 13, 3) := by decide +kernel
theorem dX5_readDrive_130 : decode cX5_readDrive 130 = .ok (.aload_n 0, 1) := by decide +kernel
theorem dX5_readDrive_131 : decode cX5_readDrive 131 = .ok (.iconst 0, 1) := by decide +kernel
theorem dX5_readDrive_132 : decode cX5_readDrive 132 = .ok (.bipush 99, 2) := by decide +kernel
theorem dX5_readDrive_134 : decode cX5_readDrive 134 = .ok (.invokevirtual 97, 3) := by decide +kernel
theorem dX5_readDrive_137 : decode cX5_readDrive 137 = .ok (.goto 4, 3) := by decide +kernel
theorem dX5_readDrive_140 : decode cX5_readDrive 140 = .ok (.iconst 0, 1) := by decide +kernel
theorem dX5_readDrive_141 : decode cX5_readDrive 141 = .ok (.putfield 208, 3) := by decide +kernel
theorem dX5_readDrive_144 : decode cX5_readDrive 144 = .ok (.aload_n 1, 1) := by decide +kernel
theorem dX5_readDrive_145 : decode cX5_readDrive 145 = .ok (.aload_n 0, 1) := by decide +kernel
theorem dX5_readDrive_146 : decode cX5_readDrive 146 = .ok (.ldc 210, 2) := by decide +kernel
theorem dX5_readDrive_148 : decode cX5_readDrive 148 = .ok (.invokevirtual 107, 3) := by decide +kernel
theorem dX5_readDrive_151 : decode cX5_readDrive 151 = .ok (.ifCond .eq 14, 3) := by decide +kernel
theorem dX5_readDrive_154 : decode cX5_readDrive 154 = .ok (.aload_n 0, 1) := by decide +kernel
theorem dX5_readDrive_155 : decode cX5_readDrive 155 = .ok (.aload_n 1, 1) := by decide +kernel
theorem dX5_readDrive_156 : decode cX5_readDrive 156 = .ok (.getfield 186, 3) := by decide +kernel
theorem dX5_readDrive_159 : decode cX5_readDrive 159 = .ok (.invokevirtual 212, 3) := by decide +kernel
theorem dX5_readDrive_162 : decode cX5_readDrive 162 = .ok (.goto 7, 3) := by decide +kernel
theorem dX5_readDrive_165 : decode cX5_readDrive 165 = .ok (.aload_n 1, 1) := by decide +kernel
theorem dX5_readDrive_166 : decode cX5_readDrive 166 = .ok (.getfield 186, 3) := by decide +kernel
theorem dX5_readDrive_169 : decode cX5_readDrive 169 = .ok (.putfield 216, 3) := by decide +kernel
theorem dX5_readDrive_172 : decode cX5_readDrive 172 = .ok (.aload_n 1, 1) := by decide +kernel
theorem dX5_readDrive_173 : decode cX5_readDrive 173 = .ok (.aload_n 0, 1) := by decide +kernel
theorem dX5_readDrive_174 : decode cX5_readDrive 174 = .ok (.ldc 219, 2) := by decide +kernel
theorem dX5_readDrive_176 : decode cX5_readDrive 176 = .ok (.invokevirtual 107, 3) := by decide +kernel
theorem dX5_readDrive_179 : decode cX5_readDrive 179 = .ok (.ifCond .eq 7, 3) := by decide +kernel
theorem dX5_readDrive_182 : decode cX5_readDrive 182 = .ok (.iconst 1, 1) := by decide +kernel
theorem dX5_readDrive_183 : decode cX5_readDrive 183 = .ok (.goto 4, 3) := by decide +kernel
theorem dX5_readDrive_186 : decode cX5_readDrive 186 = .ok (.iconst 0, 1) := by decide +kernel
theorem dX5_readDrive_187 : decode cX5_readDrive 187 = .ok (.putfield 221, 3) := by decide +kernel
theorem dX5_readDrive_190 : decode cX5_readDrive 190 = .ok (.aload_n 0, 1) := by decide +kernel
theorem dX5_readDrive_191 : decode cX5_readDrive 191 = .ok (.getfield 19, 3) := by decide +kernel
theorem dX5_readDrive_194 : decode cX5_readDrive 194 = .ok (.dup, 1) := by decide +kernel
theorem dX5_readDrive_195 : decode cX5_readDrive 195 = .ok (.getfield 176, 3) := by decide +kernel
theorem dX5_readDrive_198 : decode cX5_readDrive 198 = .ok (.iconst 1, 1) := by decide +kernel
theorem dX5_readDrive_199 : decode cX5_readDrive 199 = .ok (.iadd, 1) := by decide +kernel
theorem dX5_readDrive_200 : decode cX5_readDrive 200 = .ok (.putfield 176, 3) := by decide +kernel
theorem dX5_readDrive_203 : decode cX5_readDrive 203 = .ok (.return_, 1) := by decide +kernel
theorem dX5_takePainter_0 : decode cX5_takePainter 0 = .ok (.aload_n 0, 1) := by decide +kernel
theorem dX5_takePainter_1 : decode cX5_takePainter 1 = .ok (.getfield 41, 3) := by decide +kernel
theorem dX5_takePainter_4 : decode cX5_takePainter 4 = .ok (.iconst 2, 1) := by decide +kernel
theorem dX5_takePainter_5 : decode cX5_takePainter 5 = .ok (.if_icmp .ne 16, 3) := by decide +kernel
theorem dX5_takePainter_8 : decode cX5_takePainter 8 = .ok (.aload_n 0, 1) := by decide +kernel
theorem dX5_takePainter_9 : decode cX5_takePainter 9 = .ok (.getfield 72, 3) := by decide +kernel
theorem dX5_takePainter_12 : decode cX5_takePainter 12 = .ok (.iload_n 1, 1) := by decide +kernel
theorem dX5_takePainter_13 : decode cX5_takePainter 13 = .ok (.if_icmp .ne 8, 3) := by decide +kernel
theorem dX5_takePainter_16 : decode cX5_takePainter 16 = .ok (.aload_n 0, 1) := by decide +kernel
theorem dX5_takePainter_17 : decode cX5_takePainter 17 = .ok (.iconst 2, 1) := by decide +kernel
theorem dX5_takePainter_18 : decode cX5_takePainter 18 = .ok (.invokevirtual 89, 3) := by decide +kernel
theorem dX5_takePainter_21 : decode cX5_takePainter 21 = .ok (.aload_n 0, 1) := by decide +kernel
theorem dX5_takePainter_22 : decode cX5_takePainter 22 = .ok (.iconst 0, 1) := by decide +kernel
theorem dX5_takePainter_23 : decode cX5_takePainter 23 = .ok (.aload_n 0, 1) := by decide +kernel
theorem dX5_takePainter_24 : decode cX5_takePainter 24 = .ok (.getfield 19, 3) := by decide +kernel
theorem dX5_takePainter_27 : decode cX5_takePainter 27 = .ok (.getfield 164, 3) := by decide +kernel
theorem dX5_takePainter_30 : decode cX5_takePainter 30 = .ok (.iconst 1, 1) := by decide +kernel
theorem dX5_takePainter_31 : decode cX5_takePainter 31 = .ok (.isub, 1) := by decide +kernel
theorem dX5_takePainter_32 : decode cX5_takePainter 32 = .ok (.invokevirtual 97, 3) := by decide +kernel
theorem dX5_takePainter_35 : decode cX5_takePainter 35 = .ok (.ireturn, 1) := by decide +kernel
theorem dX5_readFog_0 : decode cX5_readFog 0 = .ok (.aload_n 0, 1) := by decide +kernel
theorem dX5_readFog_1 : decode cX5_readFog 1 = .ok (.getfield 19, 3) := by decide +kernel
theorem dX5_readFog_4 : decode cX5_readFog 4 = .ok (.getfield 223, 3) := by decide +kernel
theorem dX5_readFog_7 : decode cX5_readFog 7 = .ok (.bipush 8, 2) := by decide +kernel
theorem dX5_readFog_9 : decode cX5_readFog 9 = .ok (.if_icmp .lt 8, 3) := by decide +kernel
theorem dX5_readFog_12 : decode cX5_readFog 12 = .ok (.aload_n 0, 1) := by decide +kernel
theorem dX5_readFog_13 : decode cX5_readFog 13 = .ok (.iconst 3, 1) := by decide +kernel
theorem dX5_readFog_14 : decode cX5_readFog 14 = .ok (.invokevirtual 89, 3) := by decide +kernel
theorem dX5_readFog_17 : decode cX5_readFog 17 = .ok (.aload_n 0, 1) := by decide +kernel
theorem dX5_readFog_18 : decode cX5_readFog 18 = .ok (.ldc 142, 2) := by decide +kernel
theorem dX5_readFog_20 : decode cX5_readFog 20 = .ok (.iconst 0, 1) := by decide +kernel
theorem dX5_readFog_21 : decode cX5_readFog 21 = .ok (.aload_n 0, 1) := by decide +kernel
theorem dX5_readFog_22 : decode cX5_readFog 22 = .ok (.getfield 19, 3) := by decide +kernel
theorem dX5_readFog_25 : decode cX5_readFog 25 = .ok (.getfield 154, 3) := by decide +kernel
theorem dX5_readFog_28 : decode cX5_readFog 28 = .ok (.iconst 1, 1) := by decide +kernel
theorem dX5_readFog_29 : decode cX5_readFog 29 = .ok (.isub, 1) := by decide +kernel
theorem dX5_readFog_30 : decode cX5_readFog 30 = .ok (.invokevirtual 130, 3) := by decide +kernel
theorem dX5_readFog_33 : decode cX5_readFog 33 = .ok (.istore_n 1, 1) := by decide +kernel
theorem dX5_readFog_34 : decode cX5_readFog 34 = .ok (.aload_n 0, 1) := by decide +kernel
theorem dX5_readFog_35 : decode cX5_readFog 35 = .ok (.ldc 195, 2) := by decide +kernel
theorem dX5_readFog_37 : decode cX5_readFog 37 = .ok (.iconst 0, 1) := by decide +kernel
theorem dX5_readFog_38 : decode cX5_readFog 38 = .ok (.aload_n 0, 1) := by decide +kernel
theorem dX5_readFog_39 : decode cX5_readFog 39 = .ok (.getfield 19, 3) := by decide +kernel
theorem dX5_readFog_42 : decode cX5_readFog 42 = .ok (.getfield 127, 3) := by decide +kernel
theorem dX5_readFog_45 : decode cX5_readFog 45 = .ok (.iconst 1, 1) := by decide +kernel
theorem dX5_readFog_46 : decode cX5_readFog 46 = .ok (.isub, 1) := by decide +kernel
theorem dX5_readFog_47 : decode cX5_readFog 47 = .ok (.invokevirtual 130, 3) := by decide +kernel
theorem dX5_readFog_50 : decode cX5_readFog 50 = .ok (.istore_n 2, 1) := by decide +kernel
theorem dX5_readFog_51 : decode cX5_readFog 51 = .ok (.aload_n 0, 1) := by decide +kernel
theorem dX5_readFog_52 : decode cX5_readFog 52 = .ok (.ldc 226, 2) := by decide +kernel
theorem dX5_readFog_54 : decode cX5_readFog 54 = .ok (.iconst 2, 1) := by decide +kernel
theorem dX5_readFog_55 : decode cX5_readFog 55 = .ok (.bipush 9, 2) := by decide +kernel
theorem dX5_readFog_57 : decode cX5_readFog 57 = .ok (.invokevirtual 130, 3) := by decide +kernel
theorem dX5_readFog_60 : decode cX5_readFog 60 = .ok (.istore_n 3, 1) := by decide +kernel
theorem dX5_readFog_61 : decode cX5_readFog 61 = .ok (.aload_n 0, 1) := by decide +kernel
theorem dX5_readFog_62 : decode cX5_readFog 62 = .ok (.getfield 23, 3) := by decide +kernel
theorem dX5_readFog_65 : decode cX5_readFog 65 = .ok (.ifCond .ne 30, 3) := by decide +kernel
theorem dX5_readFog_68 : decode cX5_readFog 68 = .ok (.aload_n 0, 1) := by decide +kernel
theorem dX5_readFog_69 : decode cX5_readFog 69 = .ok (.getfield 19, 3) := by decide +kernel
theorem dX5_readFog_72 : decode cX5_readFog 72 = .ok (.getfield 228, 3) := by decide +kernel
theorem dX5_readFog_75 : decode cX5_readFog 75 = .ok (.iload_n 2, 1) := by decide +kernel
theorem dX5_readFog_76 : decode cX5_readFog 76 = .ok (.iconst 4, 1) := by decide +kernel
theorem dX5_readFog_77 : decode cX5_readFog 77 = .ok (.imul, 1) := by decide +kernel
theorem dX5_readFog_78 : decode cX5_readFog 78 = .ok (.iload_n 1, 1) := by decide +kernel
theorem dX5_readFog_79 : decode cX5_readFog 79 = .ok (.iadd, 1) := by decide +kernel
theorem dX5_readFog_80 : decode cX5_readFog 80 = .ok (.iload_n 3, 1) := by decide +kernel
theorem dX5_readFog_81 : decode cX5_readFog 81 = .ok (.iastore, 1) := by decide +kernel
theorem dX5_readFog_82 : decode cX5_readFog 82 = .ok (.aload_n 0, 1) := by decide +kernel
theorem dX5_readFog_83 : decode cX5_readFog 83 = .ok (.getfield 19, 3) := by decide +kernel
theorem dX5_readFog_86 : decode cX5_readFog 86 = .ok (.dup, 1) := by decide +kernel
theorem dX5_readFog_87 : decode cX5_readFog 87 = .ok (.getfield 223, 3) := by decide +kernel
theorem dX5_readFog_90 : decode cX5_readFog 90 = .ok (.iconst 1, 1) := by decide +kernel
theorem dX5_readFog_91 : decode cX5_readFog 91 = .ok (.iadd, 1) := by decide +kernel
theorem dX5_readFog_92 : decode cX5_readFog 92 = .ok (.putfield 223, 3) := by decide +kernel
theorem dX5_readFog_95 : decode cX5_readFog 95 = .ok (.return_, 1) := by decide +kernel
theorem dX6_init_0 : decode cX6_init 0 = .ok (.aload_n 0, 1) := by decide +kernel
theorem dX6_init_1 : decode cX6_init 1 = .ok (.invokespecial 3, 3) := by decide +kernel
theorem dX6_init_4 : decode cX6_init 4 = .ok (.aload_n 0, 1) := by decide +kernel
theorem dX6_init_5 : decode cX6_init 5 = .ok (.iconst 4, 1) := by decide +kernel
theorem dX6_init_6 : decode cX6_init 6 = .ok (.bipush 60, 2) := by decide +kernel
theorem dX6_init_8 : decode cX6_init 8 = .ok (.multianewarray 9 2, 4) := by decide +kernel
theorem dX6_init_12 : decode cX6_init 12 = .ok (.putfield 11, 3) := by decide +kernel
theorem dX6_init_15 : decode cX6_init 15 = .ok (.aload_n 0, 1) := by decide +kernel
theorem dX6_init_16 : decode cX6_init 16 = .ok (.iconst 4, 1) := by decide +kernel
theorem dX6_init_17 : decode cX6_init 17 = .ok (.newarray .int, 2) := by decide +kernel
theorem dX6_init_19 : decode cX6_init 19 = .ok (.putfield 16, 3) := by decide +kernel
theorem dX6_init_22 : decode cX6_init 22 = .ok (.aload_n 0, 1) := by decide +kernel
theorem dX6_init_23 : decode cX6_init 23 = .ok (.iconst 4, 1) := by decide +kernel
theorem dX6_init_24 : decode cX6_init 24 = .ok (.newarray .int, 2) := by decide +kernel
theorem dX6_init_26 : decode cX6_init 26 = .ok (.putfield 20, 3) := by decide +kernel
theorem dX6_init_29 : decode cX6_init 29 = .ok (.aload_n 0, 1) := by decide +kernel
theorem dX6_init_30 : decode cX6_init 30 = .ok (.getfield 20, 3) := by decide +kernel
theorem dX6_init_33 : decode cX6_init 33 = .ok (.iconst (-1), 1) := by decide +kernel
theorem dX6_init_34 : decode cX6_init 34 = .ok (.invokestatic 23, 3) := by decide +kernel
theorem dX6_init_37 : decode cX6_init 37 = .ok (.return_, 1) := by decide +kernel
theorem dX6_isSlot_0 : decode cX6_isSlot 0 = .ok (.iload_n 0, 1) := by decide +kernel
theorem dX6_isSlot_1 : decode cX6_isSlot 1 = .ok (.ifCond .lt 12, 3) := by decide +kernel
theorem dX6_isSlot_4 : decode cX6_isSlot 4 = .ok (.iload_n 0, 1) := by decide +kernel
theorem dX6_isSlot_5 : decode cX6_isSlot 5 = .ok (.iconst 4, 1) := by decide +kernel
theorem dX6_isSlot_6 : decode cX6_isSlot 6 = .ok (.if_icmp .ge 7, 3) := by decide +kernel
theorem dX6_isSlot_9 : decode cX6_isSlot 9 = .ok (.iconst 1, 1) := by decide +kernel
theorem dX6_isSlot_10 : decode cX6_isSlot 10 = .ok (.goto 4, 3) := by decide +kernel
theorem dX6_isSlot_13 : decode cX6_isSlot 13 = .ok (.iconst 0, 1) := by decide +kernel
theorem dX6_isSlot_14 : decode cX6_isSlot 14 = .ok (.ireturn, 1) := by decide +kernel
theorem dX6_cut_0 : decode cX6_cut 0 = .ok (.iload_n 2, 1) := by decide +kernel
theorem dX6_cut_1 : decode cX6_cut 1 = .ok (.tableswitch 41 0 2 #[27, 32, 37], 27) := by decide +kernel
theorem dX6_cut_28 : decode cX6_cut 28 = .ok (.lload_n 0, 1) := by decide +kernel
theorem dX6_cut_29 : decode cX6_cut 29 = .ok (.l2i, 1) := by decide +kernel
theorem dX6_cut_30 : decode cX6_cut 30 = .ok (.i2b, 1) := by decide +kernel
theorem dX6_cut_31 : decode cX6_cut 31 = .ok (.i2l, 1) := by decide +kernel
theorem dX6_cut_32 : decode cX6_cut 32 = .ok (.lreturn, 1) := by decide +kernel
theorem dX6_cut_33 : decode cX6_cut 33 = .ok (.lload_n 0, 1) := by decide +kernel
theorem dX6_cut_34 : decode cX6_cut 34 = .ok (.l2i, 1) := by decide +kernel
theorem dX6_cut_35 : decode cX6_cut 35 = .ok (.i2s, 1) := by decide +kernel
theorem dX6_cut_36 : decode cX6_cut 36 = .ok (.i2l, 1) := by decide +kernel
theorem dX6_cut_37 : decode cX6_cut 37 = .ok (.lreturn, 1) := by decide +kernel
theorem dX6_cut_38 : decode cX6_cut 38 = .ok (.lload_n 0, 1) := by decide +kernel
theorem dX6_cut_39 : decode cX6_cut 39 = .ok (.l2i, 1) := by decide +kernel
theorem dX6_cut_40 : decode cX6_cut 40 = .ok (.i2l, 1) := by decide +kernel
theorem dX6_cut_41 : decode cX6_cut 41 = .ok (.lreturn, 1) := by decide +kernel
theorem dX6_cut_42 : decode cX6_cut 42 = .ok (.lload_n 0, 1) := by decide +kernel
theorem dX6_cut_43 : decode cX6_cut 43 = .ok (.lreturn, 1) := by decide +kernel
theorem dX6_hasRow_0 : decode cX6_hasRow 0 = .ok (.aload_n 0, 1) := by decide +kernel
theorem dX6_hasRow_1 : decode cX6_hasRow 1 = .ok (.getfield 20, 3) := by decide +kernel
theorem dX6_hasRow_4 : decode cX6_hasRow 4 = .ok (.iload_n 1, 1) := by decide +kernel
theorem dX6_hasRow_5 : decode cX6_hasRow 5 = .ok (.iaload, 1) := by decide +kernel
theorem dX6_hasRow_6 : decode cX6_hasRow 6 = .ok (.iconst (-1), 1) := by decide +kernel
theorem dX6_hasRow_7 : decode cX6_hasRow 7 = .ok (.if_icmp .eq 7, 3) := by decide +kernel
theorem dX6_hasRow_10 : decode cX6_hasRow 10 = .ok (.iconst 1, 1) := by decide +kernel
theorem dX6_hasRow_11 : decode cX6_hasRow 11 = .ok (.goto 4, 3) := by decide +kernel
theorem dX6_hasRow_14 : decode cX6_hasRow 14 = .ok (.iconst 0, 1) := by decide +kernel
theorem dX6_hasRow_15 : decode cX6_hasRow 15 = .ok (.ireturn, 1) := by decide +kernel
theorem dX6_rows_0 : decode cX6_rows 0 = .ok (.iconst 0, 1) := by decide +kernel
theorem dX6_rows_1 : decode cX6_rows 1 = .ok (.istore_n 1, 1) := by decide +kernel
theorem dX6_rows_2 : decode cX6_rows 2 = .ok (.iconst 0, 1) := by decide +kernel
theorem dX6_rows_3 : decode cX6_rows 3 = .ok (.istore_n 2, 1) := by decide +kernel
theorem dX6_rows_4 : decode cX6_rows 4 = .ok (.iload_n 2, 1) := by decide +kernel
theorem dX6_rows_5 : decode cX6_rows 5 = .ok (.iconst 4, 1) := by decide +kernel
theorem dX6_rows_6 : decode cX6_rows 6 = .ok (.if_icmp .ge 20, 3) := by decide +kernel
theorem dX6_rows_9 : decode cX6_rows 9 = .ok (.aload_n 0, 1) := by decide +kernel
theorem dX6_rows_10 : decode cX6_rows 10 = .ok (.iload_n 2, 1) := by decide +kernel
theorem dX6_rows_11 : decode cX6_rows 11 = .ok (.invokevirtual 29, 3) := by decide +kernel
theorem dX6_rows_14 : decode cX6_rows 14 = .ok (.ifCond .eq 6, 3) := by decide +kernel
theorem dX6_rows_17 : decode cX6_rows 17 = .ok (.iinc 1 1, 3) := by decide +kernel
theorem dX6_rows_20 : decode cX6_rows 20 = .ok (.iinc 2 1, 3) := by decide +kernel
theorem dX6_rows_23 : decode cX6_rows 23 = .ok (.goto (-19), 3) := by decide +kernel
theorem dX6_rows_26 : decode cX6_rows 26 = .ok (.iload_n 1, 1) := by decide +kernel
theorem dX6_rows_27 : decode cX6_rows 27 = .ok (.ireturn, 1) := by decide +kernel
theorem dX6_lay_0 : decode cX6_lay 0 = .ok (.aload_n 0, 1) := by decide +kernel
theorem dX6_lay_1 : decode cX6_lay 1 = .ok (.getfield 11, 3) := by decide +kernel
theorem dX6_lay_4 : decode cX6_lay 4 = .ok (.iload_n 1, 1) := by decide +kernel
theorem dX6_lay_5 : decode cX6_lay 5 = .ok (.aaload, 1) := by decide +kernel
theorem dX6_lay_6 : decode cX6_lay 6 = .ok (.lconst 0, 1) := by decide +kernel
theorem dX6_lay_7 : decode cX6_lay 7 = .ok (.invokestatic 33, 3) := by decide +kernel
theorem dX6_lay_10 : decode cX6_lay 10 = .ok (.aload_n 0, 1) := by decide +kernel
theorem dX6_lay_11 : decode cX6_lay 11 = .ok (.getfield 16, 3) := by decide +kernel
theorem dX6_lay_14 : decode cX6_lay 14 = .ok (.iload_n 1, 1) := by decide +kernel
theorem dX6_lay_15 : decode cX6_lay 15 = .ok (.iload_n 2, 1) := by decide +kernel
theorem dX6_lay_16 : decode cX6_lay 16 = .ok (.iastore, 1) := by decide +kernel
theorem dX6_lay_17 : decode cX6_lay 17 = .ok (.aload_n 0, 1) := by decide +kernel
theorem dX6_lay_18 : decode cX6_lay 18 = .ok (.getfield 20, 3) := by decide +kernel
theorem dX6_lay_21 : decode cX6_lay 21 = .ok (.iload_n 1, 1) := by decide +kernel
theorem dX6_lay_22 : decode cX6_lay 22 = .ok (.iload_n 3, 1) := by decide +kernel
theorem dX6_lay_23 : decode cX6_lay 23 = .ok (.iastore, 1) := by decide +kernel
theorem dX6_lay_24 : decode cX6_lay 24 = .ok (.return_, 1) := by decide +kernel
theorem dX6_isWithin_0 : decode cX6_isWithin 0 = .ok (.iconst 0, 1) := by decide +kernel
theorem dX6_isWithin_1 : decode cX6_isWithin 1 = .ok (.istore_n 3, 1) := by decide +kernel
theorem dX6_isWithin_2 : decode cX6_isWithin 2 = .ok (.iload_n 3, 1) := by decide +kernel
theorem dX6_isWithin_3 : decode cX6_isWithin 3 = .ok (.aload_n 0, 1) := by decide +kernel
theorem dX6_isWithin_4 : decode cX6_isWithin 4 = .ok (.getfield 20, 3) := by decide +kernel
theorem dX6_isWithin_7 : decode cX6_isWithin 7 = .ok (.iload_n 1, 1) := by decide +kernel
theorem dX6_isWithin_8 : decode cX6_isWithin 8 = .ok (.iaload, 1) := by decide +kernel
theorem dX6_isWithin_9 : decode cX6_isWithin 9 = .ok (.if_icmp .ge 38, 3) := by decide +kernel
theorem dX6_isWithin_12 : decode cX6_isWithin 12 = .ok (.aload_n 0, 1) := by decide +kernel
theorem dX6_isWithin_13 : decode cX6_isWithin 13 = .ok (.getfield 11, 3) := by decide +kernel
theorem dX6_isWithin_16 : decode cX6_isWithin 16 = .ok (.iload_n 1, 1) := by decide +kernel
theorem dX6_isWithin_17 : decode cX6_isWithin 17 = .ok (.aaload, 1) := by decide +kernel
theorem dX6_isWithin_18 : decode cX6_isWithin 18 = .ok (.iload_n 3, 1) := by decide +kernel
theorem dX6_isWithin_19 : decode cX6_isWithin 19 = .ok (.laload, 1) := by decide +kernel
theorem dX6_isWithin_20 : decode cX6_isWithin 20 = .ok (.lconst 0, 1) := by decide +kernel
theorem dX6_isWithin_21 : decode cX6_isWithin 21 = .ok (.lcmp, 1) := by decide +kernel
theorem dX6_isWithin_22 : decode cX6_isWithin 22 = .ok (.ifCond .lt 17, 3) := by decide +kernel
theorem dX6_isWithin_25 : decode cX6_isWithin 25 = .ok (.aload_n 0, 1) := by decide +kernel
theorem dX6_isWithin_26 : decode cX6_isWithin 26 = .ok (.getfield 11, 3) := by decide +kernel
theorem dX6_isWithin_29 : decode cX6_isWithin 29 = .ok (.iload_n 1, 1) := by decide +kernel
theorem dX6_isWithin_30 : decode cX6_isWithin 30 = .ok (.aaload, 1) := by decide +kernel
theorem dX6_isWithin_31 : decode cX6_isWithin 31 = .ok (.iload_n 3, 1) := by decide +kernel
theorem dX6_isWithin_32 : decode cX6_isWithin 32 = .ok (.laload, 1) := by decide +kernel
theorem dX6_isWithin_33 : decode cX6_isWithin 33 = .ok (.iload_n 2, 1) := by decide +kernel
theorem dX6_isWithin_34 : decode cX6_isWithin 34 = .ok (.i2l, 1) := by decide +kernel
theorem dX6_isWithin_35 : decode cX6_isWithin 35 = .ok (.lcmp, 1) := by decide +kernel
theorem dX6_isWithin_36 : decode cX6_isWithin 36 = .ok (.ifCond .le 5, 3) := by decide +kernel
theorem dX6_isWithin_39 : decode cX6_isWithin 39 = .ok (.iconst 0, 1) := by decide +kernel
theorem dX6_isWithin_40 : decode cX6_isWithin 40 = .ok (.ireturn, 1) := by decide +kernel
theorem dX6_isWithin_41 : decode cX6_isWithin 41 = .ok (.iinc 3 1, 3) := by decide +kernel
theorem dX6_isWithin_44 : decode cX6_isWithin 44 = .ok (.goto (-42), 3) := by decide +kernel
theorem dX6_isWithin_47 : decode cX6_isWithin 47 = .ok (.iconst 1, 1) := by decide +kernel
theorem dX6_isWithin_48 : decode cX6_isWithin 48 = .ok (.ireturn, 1) := by decide +kernel
theorem dX6_reaches_0 : decode cX6_reaches 0 = .ok (.iload_n 2, 1) := by decide +kernel
theorem dX6_reaches_1 : decode cX6_reaches 1 = .ok (.ifCond .lt 23, 3) := by decide +kernel
theorem dX6_reaches_4 : decode cX6_reaches 4 = .ok (.iload_n 3, 1) := by decide +kernel
theorem dX6_reaches_5 : decode cX6_reaches 5 = .ok (.ifCond .lt 19, 3) := by decide +kernel
theorem dX6_reaches_8 : decode cX6_reaches 8 = .ok (.iload_n 2, 1) := by decide +kernel
theorem dX6_reaches_9 : decode cX6_reaches 9 = .ok (.aload_n 0, 1) := by decide +kernel
theorem dX6_reaches_10 : decode cX6_reaches 10 = .ok (.getfield 20, 3) := by decide +kernel
theorem dX6_reaches_13 : decode cX6_reaches 13 = .ok (.iload_n 1, 1) := by decide +kernel
theorem dX6_reaches_14 : decode cX6_reaches 14 = .ok (.iaload, 1) := by decide +kernel
theorem dX6_reaches_15 : decode cX6_reaches 15 = .ok (.iload_n 3, 1) := by decide +kernel
theorem dX6_reaches_16 : decode cX6_reaches 16 = .ok (.isub, 1) := by decide +kernel
theorem dX6_reaches_17 : decode cX6_reaches 17 = .ok (.if_icmp .gt 7, 3) := by decide +kernel
theorem dX6_reaches_20 : decode cX6_reaches 20 = .ok (.iconst 1, 1) := by decide +kernel
theorem dX6_reaches_21 : decode cX6_reaches 21 = .ok (.goto 4, 3) := by decide +kernel
theorem dX6_reaches_24 : decode cX6_reaches 24 = .ok (.iconst 0, 1) := by decide +kernel
theorem dX6_reaches_25 : decode cX6_reaches 25 = .ok (.ireturn, 1) := by decide +kernel
theorem dX7_init_0 : decode cX7_init 0 = .ok (.aload_n 0, 1) := by decide +kernel
theorem dX7_init_1 : decode cX7_init 1 = .ok (.invokespecial 3, 3) := by decide +kernel
theorem dX7_init_4 : decode cX7_init 4 = .ok (.aload_n 0, 1) := by decide +kernel
theorem dX7_init_5 : decode cX7_init 5 = .ok (.sipush 1600, 3) := by decide +kernel
theorem dX7_init_8 : decode cX7_init 8 = .ok (.newarray .byte, 2) := by decide +kernel
theorem dX7_init_10 : decode cX7_init 10 = .ok (.putfield 9, 3) := by decide +kernel
theorem dX7_init_13 : decode cX7_init 13 = .ok (.return_, 1) := by decide +kernel
theorem dX7_append_0 : decode cX7_append 0 = .ok (.bipush 24, 2) := by decide +kernel
theorem dX7_append_2 : decode cX7_append 2 = .ok (.istore_n 2, 1) := by decide +kernel
theorem dX7_append_3 : decode cX7_append 3 = .ok (.iload_n 2, 1) := by decide +kernel
theorem dX7_append_4 : decode cX7_append 4 = .ok (.ifCond .lt 42, 3) := by decide +kernel
theorem dX7_append_7 : decode cX7_append 7 = .ok (.aload_n 0, 1) := by decide +kernel
theorem dX7_append_8 : decode cX7_append 8 = .ok (.getfield 15, 3) := by decide +kernel
theorem dX7_append_11 : decode cX7_append 11 = .ok (.sipush 1600, 3) := by decide +kernel
theorem dX7_append_14 : decode cX7_append 14 = .ok (.if_icmp .ge 32, 3) := by decide +kernel
theorem dX7_append_17 : decode cX7_append 17 = .ok (.aload_n 0, 1) := by decide +kernel
theorem dX7_append_18 : decode cX7_append 18 = .ok (.getfield 9, 3) := by decide +kernel
theorem dX7_append_21 : decode cX7_append 21 = .ok (.aload_n 0, 1) := by decide +kernel
theorem dX7_append_22 : decode cX7_append 22 = .ok (.getfield 15, 3) := by decide +kernel
theorem dX7_append_25 : decode cX7_append 25 = .ok (.iload_n 1, 1) := by decide +kernel
theorem dX7_append_26 : decode cX7_append 26 = .ok (.iload_n 2, 1) := by decide +kernel
theorem dX7_append_27 : decode cX7_append 27 = .ok (.ishr, 1) := by decide +kernel
theorem dX7_append_28 : decode cX7_append 28 = .ok (.i2b, 1) := by decide +kernel
theorem dX7_append_29 : decode cX7_append 29 = .ok (.bastore, 1) := by decide +kernel
theorem dX7_append_30 : decode cX7_append 30 = .ok (.aload_n 0, 1) := by decide +kernel
theorem dX7_append_31 : decode cX7_append 31 = .ok (.dup, 1) := by decide +kernel
theorem dX7_append_32 : decode cX7_append 32 = .ok (.getfield 15, 3) := by decide +kernel
theorem dX7_append_35 : decode cX7_append 35 = .ok (.iconst 1, 1) := by decide +kernel
theorem dX7_append_36 : decode cX7_append 36 = .ok (.iadd, 1) := by decide +kernel
theorem dX7_append_37 : decode cX7_append 37 = .ok (.putfield 15, 3) := by decide +kernel
theorem dX7_append_40 : decode cX7_append 40 = .ok (.iinc 2 (-8), 3) := by decide +kernel
theorem dX7_append_43 : decode cX7_append 43 = .ok (.goto (-40), 3) := by decide +kernel
theorem dX7_append_46 : decode cX7_append 46 = .ok (.return_, 1) := by decide +kernel
theorem dX8_init_0 : decode cX8_init 0 = .ok (.aload_n 0, 1) := by decide +kernel
theorem dX8_init_1 : decode cX8_init 1 = .ok (.invokespecial 3, 3) := by decide +kernel
theorem dX8_init_4 : decode cX8_init 4 = .ok (.aload_n 0, 1) := by decide +kernel
theorem dX8_init_5 : decode cX8_init 5 = .ok (.bipush 13, 2) := by decide +kernel
theorem dX8_init_7 : decode cX8_init 7 = .ok (.newarray .int, 2) := by decide +kernel
theorem dX8_init_9 : decode cX8_init 9 = .ok (.putfield 9, 3) := by decide +kernel
theorem dX8_init_12 : decode cX8_init 12 = .ok (.aload_n 0, 1) := by decide +kernel
theorem dX8_init_13 : decode cX8_init 13 = .ok (.iconst 4, 1) := by decide +kernel
theorem dX8_init_14 : decode cX8_init 14 = .ok (.newarray .int, 2) := by decide +kernel
theorem dX8_init_16 : decode cX8_init 16 = .ok (.putfield 15, 3) := by decide +kernel
theorem dX8_init_19 : decode cX8_init 19 = .ok (.aload_n 0, 1) := by decide +kernel
theorem dX8_init_20 : decode cX8_init 20 = .ok (.iconst 4, 1) := by decide +kernel
theorem dX8_init_21 : decode cX8_init 21 = .ok (.newarray .int, 2) := by decide +kernel
theorem dX8_init_23 : decode cX8_init 23 = .ok (.putfield 18, 3) := by decide +kernel
theorem dX8_init_26 : decode cX8_init 26 = .ok (.aload_n 0, 1) := by decide +kernel
theorem dX8_init_27 : decode cX8_init 27 = .ok (.iconst 5, 1) := by decide +kernel
theorem dX8_init_28 : decode cX8_init 28 = .ok (.newarray .int, 2) := by decide +kernel
theorem dX8_init_30 : decode cX8_init 30 = .ok (.putfield 21, 3) := by decide +kernel
theorem dX8_init_33 : decode cX8_init 33 = .ok (.return_, 1) := by decide +kernel
theorem dX8_keyOf_0 : decode cX8_keyOf 0 = .ok (.iload_n 0, 1) := by decide +kernel
theorem dX8_keyOf_1 : decode cX8_keyOf 1 = .ok (.bipush 6, 2) := by decide +kernel
theorem dX8_keyOf_3 : decode cX8_keyOf 3 = .ok (.ishl, 1) := by decide +kernel
theorem dX8_keyOf_4 : decode cX8_keyOf 4 = .ok (.iload_n 1, 1) := by decide +kernel
theorem dX8_keyOf_5 : decode cX8_keyOf 5 = .ok (.iconst 4, 1) := by decide +kernel
theorem dX8_keyOf_6 : decode cX8_keyOf 6 = .ok (.ishl, 1) := by decide +kernel
theorem dX8_keyOf_7 : decode cX8_keyOf 7 = .ok (.iadd, 1) := by decide +kernel
theorem dX8_keyOf_8 : decode cX8_keyOf 8 = .ok (.iload_n 2, 1) := by decide +kernel
theorem dX8_keyOf_9 : decode cX8_keyOf 9 = .ok (.iadd, 1) := by decide +kernel
theorem dX8_keyOf_10 : decode cX8_keyOf 10 = .ok (.ireturn, 1) := by decide +kernel
theorem dX8_numberOf_0 : decode cX8_numberOf 0 = .ok (.iload_n 0, 1) := by decide +kernel
theorem dX8_numberOf_1 : decode cX8_numberOf 1 = .ok (.bipush 15, 2) := by decide +kernel
theorem dX8_numberOf_3 : decode cX8_numberOf 3 = .ok (.iand, 1) := by decide +kernel
theorem dX8_numberOf_4 : decode cX8_numberOf 4 = .ok (.ireturn, 1) := by decide +kernel
theorem dX8_gapOf_0 : decode cX8_gapOf 0 = .ok (.iload_n 0, 1) := by decide +kernel
theorem dX8_gapOf_1 : decode cX8_gapOf 1 = .ok (.iconst 4, 1) := by decide +kernel
theorem dX8_gapOf_2 : decode cX8_gapOf 2 = .ok (.ishr, 1) := by decide +kernel
theorem dX8_gapOf_3 : decode cX8_gapOf 3 = .ok (.iconst 3, 1) := by decide +kernel
theorem dX8_gapOf_4 : decode cX8_gapOf 4 = .ok (.iand, 1) := by decide +kernel
theorem dX8_gapOf_5 : decode cX8_gapOf 5 = .ok (.ireturn, 1) := by decide +kernel
theorem dX8_timeOf_0 : decode cX8_timeOf 0 = .ok (.iload_n 0, 1) := by decide +kernel
theorem dX8_timeOf_1 : decode cX8_timeOf 1 = .ok (.bipush 6, 2) := by decide +kernel
theorem dX8_timeOf_3 : decode cX8_timeOf 3 = .ok (.ishr, 1) := by decide +kernel
theorem dX8_timeOf_4 : decode cX8_timeOf 4 = .ok (.ireturn, 1) := by decide +kernel
theorem dX8_begin_0 : decode cX8_begin 0 = .ok (.aload_n 0, 1) := by decide +kernel
theorem dX8_begin_1 : decode cX8_begin 1 = .ok (.iconst 0, 1) := by decide +kernel
theorem dX8_begin_2 : decode cX8_begin 2 = .ok (.putfield 24, 3) := by decide +kernel
theorem dX8_begin_5 : decode cX8_begin 5 = .ok (.iconst 0, 1) := by decide +kernel
theorem dX8_begin_6 : decode cX8_begin 6 = .ok (.istore_n 2, 1) := by decide +kernel
theorem dX8_begin_7 : decode cX8_begin 7 = .ok (.iload_n 2, 1) := by decide +kernel
theorem dX8_begin_8 : decode cX8_begin 8 = .ok (.aload_n 1, 1) := by decide +kernel
theorem dX8_begin_9 : decode cX8_begin 9 = .ok (.getfield 28, 3) := by decide +kernel
theorem dX8_begin_12 : decode cX8_begin 12 = .ok (.if_icmp .ge 44, 3) := by decide +kernel
theorem dX8_begin_15 : decode cX8_begin 15 = .ok (.iload_n 2, 1) := by decide +kernel
theorem dX8_begin_16 : decode cX8_begin 16 = .ok (.bipush 12, 2) := by decide +kernel
theorem dX8_begin_18 : decode cX8_begin 18 = .ok (.if_icmp .gt 38, 3) := by decide +kernel
theorem dX8_begin_21 : decode cX8_begin 21 = .ok (.aload_n 1, 1) := by decide +kernel
theorem dX8_begin_22 : decode cX8_begin 22 = .ok (.iload_n 2, 1) := by decide +kernel
theorem dX8_begin_23 : decode cX8_begin 23 = .ok (.invokevirtual 33, 3) := by decide +kernel
theorem dX8_begin_26 : decode cX8_begin 26 = .ok (.istore_n 3, 1) := by decide +kernel
theorem dX8_begin_27 : decode cX8_begin 27 = .ok (.iload_n 3, 1) := by decide +kernel
theorem dX8_begin_28 : decode cX8_begin 28 = .ok (.iconst (-1), 1) := by decide +kernel
theorem dX8_begin_29 : decode cX8_begin 29 = .ok (.if_icmp .eq 21, 3) := by decide +kernel
theorem dX8_begin_32 : decode cX8_begin 32 = .ok (.aload_n 0, 1) := by decide +kernel
theorem dX8_begin_33 : decode cX8_begin 33 = .ok (.iload_n 3, 1) := by decide +kernel
theorem dX8_begin_34 : decode cX8_begin 34 = .ok (.aload_n 1, 1) := by decide +kernel
theorem dX8_begin_35 : decode cX8_begin 35 = .ok (.getfield 37, 3) := by decide +kernel
theorem dX8_begin_38 : decode cX8_begin 38 = .ok (.iload_n 2, 1) := by decide +kernel
theorem dX8_begin_39 : decode cX8_begin 39 = .ok (.aaload, 1) := by decide +kernel
theorem dX8_begin_40 : decode cX8_begin 40 = .ok (.getfield 41, 3) := by decide +kernel
theorem dX8_begin_43 : decode cX8_begin 43 = .ok (.iload_n 2, 1) := by decide +kernel
theorem dX8_begin_44 : decode cX8_begin 44 = .ok (.invokestatic 46, 3) := by decide +kernel
theorem dX8_begin_47 : decode cX8_begin 47 = .ok (.invokevirtual 50, 3) := by decide +kernel
theorem dX8_begin_50 : decode cX8_begin 50 = .ok (.iinc 2 1, 3) := by decide +kernel
theorem dX8_begin_53 : decode cX8_begin 53 = .ok (.goto (-46), 3) := by decide +kernel
theorem dX8_begin_56 : decode cX8_begin 56 = .ok (.aload_n 0, 1) := by decide +kernel
theorem dX8_begin_57 : decode cX8_begin 57 = .ok (.getfield 18, 3) := by decide +kernel
theorem dX8_begin_60 : decode cX8_begin 60 = .ok (.iconst 0, 1) := by decide +kernel
theorem dX8_begin_61 : decode cX8_begin 61 = .ok (.invokestatic 54, 3) := by decide +kernel
theorem dX8_begin_64 : decode cX8_begin 64 = .ok (.aload_n 0, 1) := by decide +kernel
theorem dX8_begin_65 : decode cX8_begin 65 = .ok (.getfield 21, 3) := by decide +kernel
theorem dX8_begin_68 : decode cX8_begin 68 = .ok (.iconst 0, 1) := by decide +kernel
theorem dX8_begin_69 : decode cX8_begin 69 = .ok (.invokestatic 54, 3) := by decide +kernel
theorem dX8_begin_72 : decode cX8_begin 72 = .ok (.iconst 0, 1) := by decide +kernel
theorem dX8_begin_73 : decode cX8_begin 73 = .ok (.istore_n 2, 1) := by decide +kernel
theorem dX8_begin_74 : decode cX8_begin 74 = .ok (.iload_n 2, 1) := by decide +kernel
theorem dX8_begin_75 : decode cX8_begin 75 = .ok (.iconst 4, 1) := by decide +kernel
theorem dX8_begin_76 : decode cX8_begin 76 = .ok (.if_icmp .ge 25, 3) := by decide +kernel
theorem dX8_begin_79 : decode cX8_begin 79 = .ok (.aload_n 0, 1) := by decide +kernel
theorem dX8_begin_80 : decode cX8_begin 80 = .ok (.getfield 15, 3) := by decide +kernel
theorem dX8_begin_83 : decode cX8_begin 83 = .ok (.iload_n 2, 1) := by decide +kernel
theorem dX8_begin_84 : decode cX8_begin 84 = .ok (.aload_n 1, 1) := by decide +kernel
theorem dX8_begin_85 : decode cX8_begin 85 = .ok (.getfield 60, 3) := by decide +kernel
theorem dX8_begin_88 : decode cX8_begin 88 = .ok (.aload_n 1, 1) := by decide +kernel
theorem dX8_begin_89 : decode cX8_begin 89 = .ok (.iload_n 2, 1) := by decide +kernel
theorem dX8_begin_90 : decode cX8_begin 90 = .ok (.invokevirtual 63, 3) := by decide +kernel
theorem dX8_begin_93 : decode cX8_begin 93 = .ok (.iaload, 1) := by decide +kernel
theorem dX8_begin_94 : decode cX8_begin 94 = .ok (.iastore, 1) := by decide +kernel
theorem dX8_begin_95 : decode cX8_begin 95 = .ok (.iinc 2 1, 3) := by decide +kernel
theorem dX8_begin_98 : decode cX8_begin 98 = .ok (.goto (-24), 3) := by decide +kernel
theorem dX8_begin_101 : decode cX8_begin 101 = .ok (.aload_n 0, 1) := by decide +kernel
theorem dX8_begin_102 : decode cX8_begin 102 = .ok (.iconst 0, 1) := by decide +kernel
theorem dX8_begin_103 : decode cX8_begin 103 = .ok (.putfield 66, 3) := by decide +kernel
theorem dX8_begin_106 : decode cX8_begin 106 = .ok (.return_, 1) := by decide +kernel
theorem dX8_lineUp_0 : decode cX8_lineUp 0 = .ok (.aload_n 0, 1) := by decide +kernel
theorem dX8_lineUp_1 : decode cX8_lineUp 1 = .ok (.getfield 24, 3) := by decide +kernel
theorem dX8_lineUp_4 : decode cX8_lineUp 4 = .ok (.istore_n 2, 1) := by decide +kernel
theorem dX8_lineUp_5 : decode cX8_lineUp 5 = .ok (.iload_n 2, 1) := by decide +kernel
theorem dX8_lineUp_6 : decode cX8_lineUp 6 = .ok (.ifCond .le 35, 3) := by decide +kernel
theorem dX8_lineUp_9 : decode cX8_lineUp 9 = .ok (.aload_n 0, 1) := by decide +kernel
theorem dX8_lineUp_10 : decode cX8_lineUp 10 = .ok (.getfield 9, 3) := by decide +kernel
theorem dX8_lineUp_13 : decode cX8_lineUp 13 = .ok (.iload_n 2, 1) := by decide +kernel
theorem dX8_lineUp_14 : decode cX8_lineUp 14 = .ok (.iconst 1, 1) := by decide +kernel
theorem dX8_lineUp_15 : decode cX8_lineUp 15 = .ok (.isub, 1) := by decide +kernel
theorem dX8_lineUp_16 : decode cX8_lineUp 16 = .ok (.iaload, 1) := by decide +kernel
theorem dX8_lineUp_17 : decode cX8_lineUp 17 = .ok (.iload_n 1, 1) := by decide +kernel
theorem dX8_lineUp_18 : decode cX8_lineUp 18 = .ok (.if_icmp .le 23, 3) := by decide +kernel
theorem dX8_lineUp_21 : decode cX8_lineUp 21 = .ok (.aload_n 0, 1) := by decide +kernel
theorem dX8_lineUp_22 : decode cX8_lineUp 22 = .ok (.getfield 9, 3) := by decide +kernel
theorem dX8_lineUp_25 : decode cX8_lineUp 25 = .ok (.iload_n 2, 1) := by decide +kernel
theorem dX8_lineUp_26 : decode cX8_lineUp 26 = .ok (.aload_n 0, 1) := by decide +kernel
theorem dX8_lineUp_27 : decode cX8_lineUp 27 = .ok (.getfield 9, 3) := by decide +kernel
theorem dX8_lineUp_30 : decode cX8_lineUp 30 = .ok (.iload_n 2, 1) := by decide +kernel
theorem dX8_lineUp_31 : decode cX8_lineUp 31 = .ok (.iconst 1, 1) := by decide +kernel
theorem dX8_lineUp_32 : decode cX8_lineUp 32 = .ok (.isub, 1) := by decide +kernel
theorem dX8_lineUp_33 : decode cX8_lineUp 33 = .ok (.iaload, 1) := by decide +kernel
theorem dX8_lineUp_34 : decode cX8_lineUp 34 = .ok (.iastore, 1) := by decide +kernel
theorem dX8_lineUp_35 : decode cX8_lineUp 35 = .ok (.iinc 2 (-1), 3) := by decide +kernel
theorem dX8_lineUp_38 : decode cX8_lineUp 38 = .ok (.goto (-33), 3) := by decide +kernel
theorem dX8_lineUp_41 : decode cX8_lineUp 41 = .ok (.aload_n 0, 1) := by decide +kernel
theorem dX8_lineUp_42 : decode cX8_lineUp 42 = .ok (.getfield 9, 3) := by decide +kernel
theorem dX8_lineUp_45 : decode cX8_lineUp 45 = .ok (.iload_n 2, 1) := by decide +kernel
theorem dX8_lineUp_46 : decode cX8_lineUp 46 = .ok (.iload_n 1, 1) := by decide +kernel
theorem dX8_lineUp_47 : decode cX8_lineUp 47 = .ok (.iastore, 1) := by decide +kernel
theorem dX8_lineUp_48 : decode cX8_lineUp 48 = .ok (.aload_n 0, 1) := by decide +kernel
theorem dX8_lineUp_49 : decode cX8_lineUp 49 = .ok (.dup, 1) := by decide +kernel
theorem dX8_lineUp_50 : decode cX8_lineUp 50 = .ok (.getfield 24, 3) := by decide +kernel
theorem dX8_lineUp_53 : decode cX8_lineUp 53 = .ok (.iconst 1, 1) := by decide +kernel
theorem dX8_lineUp_54 : decode cX8_lineUp 54 = .ok (.iadd, 1) := by decide +kernel
theorem dX8_lineUp_55 : decode cX8_lineUp 55 = .ok (.putfield 24, 3) := by decide +kernel
theorem dX8_lineUp_58 : decode cX8_lineUp 58 = .ok (.return_, 1) := by decide +kernel
theorem dX8_dawn_0 : decode cX8_dawn 0 = .ok (.iload_n 2, 1) := by decide +kernel
theorem dX8_dawn_1 : decode cX8_dawn 1 = .ok (.aload_n 0, 1) := by decide +kernel
theorem dX8_dawn_2 : decode cX8_dawn 2 = .ok (.getfield 66, 3) := by decide +kernel
theorem dX8_dawn_5 : decode cX8_dawn 5 = .ok (.if_icmp .gt 4, 3) := by decide +kernel
theorem dX8_dawn_8 : decode cX8_dawn 8 = .ok (.return_, 1) := by decide +kernel
theorem dX8_dawn_9 : decode cX8_dawn 9 = .ok (.aload_n 0, 1) := by decide +kernel
theorem dX8_dawn_10 : decode cX8_dawn 10 = .ok (.iload_n 2, 1) := by decide +kernel
theorem dX8_dawn_11 : decode cX8_dawn 11 = .ok (.putfield 66, 3) := by decide +kernel
theorem dX8_dawn_14 : decode cX8_dawn 14 = .ok (.aload_n 0, 1) := by decide +kernel
theorem dX8_dawn_15 : decode cX8_dawn 15 = .ok (.getfield 18, 3) := by decide +kernel
theorem dX8_dawn_18 : decode cX8_dawn 18 = .ok (.iconst 0, 1) := by decide +kernel
theorem dX8_dawn_19 : decode cX8_dawn 19 = .ok (.invokestatic 54, 3) := by decide +kernel
theorem dX8_dawn_22 : decode cX8_dawn 22 = .ok (.aload_n 1, 1) := by decide +kernel
theorem dX8_dawn_23 : decode cX8_dawn 23 = .ok (.getfield 69, 3) := by decide +kernel
theorem dX8_dawn_26 : decode cX8_dawn 26 = .ok (.iconst 1, 1) := by decide +kernel
theorem dX8_dawn_27 : decode cX8_dawn 27 = .ok (.iaload, 1) := by decide +kernel
theorem dX8_dawn_28 : decode cX8_dawn 28 = .ok (.iconst 1, 1) := by decide +kernel
theorem dX8_dawn_29 : decode cX8_dawn 29 = .ok (.if_icmp .ne 11, 3) := by decide +kernel
theorem dX8_dawn_32 : decode cX8_dawn 32 = .ok (.aload_n 0, 1) := by decide +kernel
theorem dX8_dawn_33 : decode cX8_dawn 33 = .ok (.getfield 15, 3) := by decide +kernel
theorem dX8_dawn_36 : decode cX8_dawn 36 = .ok (.iconst 0, 1) := by decide +kernel
theorem dX8_dawn_37 : decode cX8_dawn 37 = .ok (.invokestatic 54, 3) := by decide +kernel
theorem dX8_dawn_40 : decode cX8_dawn 40 = .ok (.return_, 1) := by decide +kernel
theorem dX8_pass_0 : decode cX8_pass 0 = .ok (.iload_n 2, 1) := by decide +kernel
theorem dX8_pass_1 : decode cX8_pass 1 = .ok (.invokestatic 72, 3) := by decide +kernel
theorem dX8_pass_4 : decode cX8_pass 4 = .ok (.istore_n 3, 1) := by decide +kernel
theorem dX8_pass_5 : decode cX8_pass 5 = .ok (.iload_n 2, 1) := by decide +kernel
theorem dX8_pass_6 : decode cX8_pass 6 = .ok (.invokestatic 75, 3) := by decide +kernel
theorem dX8_pass_9 : decode cX8_pass 9 = .ok (.bipush 24, 2) := by decide +kernel
theorem dX8_pass_11 : decode cX8_pass 11 = .ok (.idiv, 1) := by decide +kernel
theorem dX8_pass_12 : decode cX8_pass 12 = .ok (.istore 4, 2) := by decide +kernel
theorem dX8_pass_14 : decode cX8_pass 14 = .ok (.aload_n 0, 1) := by decide +kernel
theorem dX8_pass_15 : decode cX8_pass 15 = .ok (.aload_n 1, 1) := by decide +kernel
theorem dX8_pass_16 : decode cX8_pass 16 = .ok (.iload 4, 2) := by decide +kernel
theorem dX8_pass_18 : decode cX8_pass 18 = .ok (.invokevirtual 78, 3) := by decide +kernel
theorem dX8_pass_21 : decode cX8_pass 21 = .ok (.aload_n 1, 1) := by decide +kernel
theorem dX8_pass_22 : decode cX8_pass 22 = .ok (.getfield 37, 3) := by decide +kernel
theorem dX8_pass_25 : decode cX8_pass 25 = .ok (.iload_n 2, 1) := by decide +kernel
theorem dX8_pass_26 : decode cX8_pass 26 = .ok (.invokestatic 82, 3) := by decide +kernel
theorem dX8_pass_29 : decode cX8_pass 29 = .ok (.aaload, 1) := by decide +kernel
theorem dX8_pass_30 : decode cX8_pass 30 = .ok (.aload_n 1, 1) := by decide +kernel
theorem dX8_pass_31 : decode cX8_pass 31 = .ok (.iload 4, 2) := by decide +kernel
theorem dX8_pass_33 : decode cX8_pass 33 = .ok (.invokevirtual 85, 3) := by decide +kernel
theorem dX8_pass_36 : decode cX8_pass 36 = .ok (.invokevirtual 89, 3) := by decide +kernel
theorem dX8_pass_39 : decode cX8_pass 39 = .ok (.istore 5, 2) := by decide +kernel
theorem dX8_pass_41 : decode cX8_pass 41 = .ok (.aload_n 0, 1) := by decide +kernel
theorem dX8_pass_42 : decode cX8_pass 42 = .ok (.getfield 18, 3) := by decide +kernel
theorem dX8_pass_45 : decode cX8_pass 45 = .ok (.iload_n 3, 1) := by decide +kernel
theorem dX8_pass_46 : decode cX8_pass 46 = .ok (.iaload, 1) := by decide +kernel
theorem dX8_pass_47 : decode cX8_pass 47 = .ok (.istore 6, 2) := by decide +kernel
theorem dX8_pass_49 : decode cX8_pass 49 = .ok (.aload_n 0, 1) := by decide +kernel
theorem dX8_pass_50 : decode cX8_pass 50 = .ok (.getfield 18, 3) := by decide +kernel
theorem dX8_pass_53 : decode cX8_pass 53 = .ok (.iload_n 3, 1) := by decide +kernel
theorem dX8_pass_54 : decode cX8_pass 54 = .ok (.iload 6, 2) := by decide +kernel
theorem dX8_pass_56 : decode cX8_pass 56 = .ok (.iload 5, 2) := by decide +kernel
theorem dX8_pass_58 : decode cX8_pass 58 = .ok (.iadd, 1) := by decide +kernel
theorem dX8_pass_59 : decode cX8_pass 59 = .ok (.iastore, 1) := by decide +kernel
theorem dX8_pass_60 : decode cX8_pass 60 = .ok (.aload_n 1, 1) := by decide +kernel
theorem dX8_pass_61 : decode cX8_pass 61 = .ok (.iload_n 3, 1) := by decide +kernel
theorem dX8_pass_62 : decode cX8_pass 62 = .ok (.iload 4, 2) := by decide +kernel
theorem dX8_pass_64 : decode cX8_pass 64 = .ok (.invokevirtual 93, 3) := by decide +kernel
theorem dX8_pass_67 : decode cX8_pass 67 = .ok (.istore 7, 2) := by decide +kernel
theorem dX8_pass_69 : decode cX8_pass 69 = .ok (.iload 7, 2) := by decide +kernel
theorem dX8_pass_71 : decode cX8_pass 71 = .ok (.ifCond .le 22, 3) := by decide +kernel
theorem dX8_pass_74 : decode cX8_pass 74 = .ok (.iload 5, 2) := by decide +kernel
theorem dX8_pass_76 : decode cX8_pass 76 = .ok (.iload 6, 2) := by decide +kernel
theorem dX8_pass_78 : decode cX8_pass 78 = .ok (.iload 5, 2) := by decide +kernel
theorem dX8_pass_80 : decode cX8_pass 80 = .ok (.iadd, 1) := by decide +kernel
theorem dX8_pass_81 : decode cX8_pass 81 = .ok (.iload 7, 2) := by decide +kernel
theorem dX8_pass_83 : decode cX8_pass 83 = .ok (.idiv, 1) := by decide +kernel
theorem dX8_pass_84 : decode cX8_pass 84 = .ok (.iload 6, 2) := by decide +kernel
theorem dX8_pass_86 : decode cX8_pass 86 = .ok (.iload 7, 2) := by decide +kernel
theorem dX8_pass_88 : decode cX8_pass 88 = .ok (.idiv, 1) := by decide +kernel
theorem dX8_pass_89 : decode cX8_pass 89 = .ok (.isub, 1) := by decide +kernel
theorem dX8_pass_90 : decode cX8_pass 90 = .ok (.isub, 1) := by decide +kernel
theorem dX8_pass_91 : decode cX8_pass 91 = .ok (.istore 5, 2) := by decide +kernel
theorem dX8_pass_93 : decode cX8_pass 93 = .ok (.aload_n 0, 1) := by decide +kernel
theorem dX8_pass_94 : decode cX8_pass 94 = .ok (.aload_n 1, 1) := by decide +kernel
theorem dX8_pass_95 : decode cX8_pass 95 = .ok (.iload_n 3, 1) := by decide +kernel
theorem dX8_pass_96 : decode cX8_pass 96 = .ok (.invokevirtual 63, 3) := by decide +kernel
theorem dX8_pass_99 : decode cX8_pass 99 = .ok (.aload_n 1, 1) := by decide +kernel
theorem dX8_pass_100 : decode cX8_pass 100 = .ok (.getfield 69, 3) := by decide +kernel
theorem dX8_pass_103 : decode cX8_pass 103 = .ok (.iconst 3, 1) := by decide +kernel
theorem dX8_pass_104 : decode cX8_pass 104 = .ok (.iaload, 1) := by decide +kernel
theorem dX8_pass_105 : decode cX8_pass 105 = .ok (.iload 5, 2) := by decide +kernel
theorem dX8_pass_107 : decode cX8_pass 107 = .ok (.invokevirtual 97, 3) := by decide +kernel
theorem dX8_pass_110 : decode cX8_pass 110 = .ok (.ireturn, 1) := by decide +kernel
theorem dX8_raise_0 : decode cX8_raise 0 = .ok (.iload_n 2, 1) := by decide +kernel
theorem dX8_raise_1 : decode cX8_raise 1 = .ok (.aload_n 0, 1) := by decide +kernel
theorem dX8_raise_2 : decode cX8_raise 2 = .ok (.getfield 15, 3) := by decide +kernel
theorem dX8_raise_5 : decode cX8_raise 5 = .ok (.iload_n 1, 1) := by decide +kernel
theorem dX8_raise_6 : decode cX8_raise 6 = .ok (.iaload, 1) := by decide +kernel
theorem dX8_raise_7 : decode cX8_raise 7 = .ok (.if_icmp .le 14, 3) := by decide +kernel
theorem dX8_raise_10 : decode cX8_raise 10 = .ok (.iload_n 2, 1) := by decide +kernel
theorem dX8_raise_11 : decode cX8_raise 11 = .ok (.aload_n 0, 1) := by decide +kernel
theorem dX8_raise_12 : decode cX8_raise 12 = .ok (.getfield 15, 3) := by decide +kernel
theorem dX8_raise_15 : decode cX8_raise 15 = .ok (.iload_n 1, 1) := by decide +kernel
theorem dX8_raise_16 : decode cX8_raise 16 = .ok (.iaload, 1) := by decide +kernel
theorem dX8_raise_17 : decode cX8_raise 17 = .ok (.isub, 1) := by decide +kernel
theorem dX8_raise_18 : decode cX8_raise 18 = .ok (.goto 4, 3) := by decide +kernel
theorem dX8_raise_21 : decode cX8_raise 21 = .ok (.iconst 1, 1) := by decide +kernel
theorem dX8_raise_22 : decode cX8_raise 22 = .ok (.istore 4, 2) := by decide +kernel
theorem dX8_raise_24 : decode cX8_raise 24 = .ok (.iload_n 3, 1) := by decide +kernel
theorem dX8_raise_25 : decode cX8_raise 25 = .ok (.iload 4, 2) := by decide +kernel
theorem dX8_raise_27 : decode cX8_raise 27 = .ok (.if_icmp .lt 8, 3) := by decide +kernel
theorem dX8_raise_30 : decode cX8_raise 30 = .ok (.iload_n 2, 1) := by decide +kernel
theorem dX8_raise_31 : decode cX8_raise 31 = .ok (.iconst 1, 1) := by decide +kernel
theorem dX8_raise_32 : decode cX8_raise 32 = .ok (.if_icmp .ge 15, 3) := by decide +kernel
theorem dX8_raise_35 : decode cX8_raise 35 = .ok (.aload_n 0, 1) := by decide +kernel
theorem dX8_raise_36 : decode cX8_raise 36 = .ok (.getfield 15, 3) := by decide +kernel
theorem dX8_raise_39 : decode cX8_raise 39 = .ok (.iload_n 1, 1) := by decide +kernel
theorem dX8_raise_40 : decode cX8_raise 40 = .ok (.dup2, 1) := by decide +kernel
theorem dX8_raise_41 : decode cX8_raise 41 = .ok (.iaload, 1) := by decide +kernel
theorem dX8_raise_42 : decode cX8_raise 42 = .ok (.iload_n 3, 1) := by decide +kernel
theorem dX8_raise_43 : decode cX8_raise 43 = .ok (.iadd, 1) := by decide +kernel
theorem dX8_raise_44 : decode cX8_raise 44 = .ok (.iastore, 1) := by decide +kernel
theorem dX8_raise_45 : decode cX8_raise 45 = .ok (.iconst 0, 1) := by decide +kernel
theorem dX8_raise_46 : decode cX8_raise 46 = .ok (.ireturn, 1) := by decide +kernel
theorem dX8_raise_47 : decode cX8_raise 47 = .ok (.aload_n 0, 1) := by decide +kernel
theorem dX8_raise_48 : decode cX8_raise 48 = .ok (.getfield 15, 3) := by decide +kernel
theorem dX8_raise_51 : decode cX8_raise 51 = .ok (.iload_n 1, 1) := by decide +kernel
theorem dX8_raise_52 : decode cX8_raise 52 = .ok (.iload_n 3, 1) := by decide +kernel
theorem dX8_raise_53 : decode cX8_raise 53 = .ok (.iload 4, 2) := by decide +kernel
theorem dX8_raise_55 : decode cX8_raise 55 = .ok (.isub, 1) := by decide +kernel
theorem dX8_raise_56 : decode cX8_raise 56 = .ok (.iload_n 2, 1) := by decide +kernel
theorem dX8_raise_57 : decode cX8_raise 57 = .ok (.irem, 1) := by decide +kernel
theorem dX8_raise_58 : decode cX8_raise 58 = .ok (.iastore, 1) := by decide +kernel
theorem dX8_raise_59 : decode cX8_raise 59 = .ok (.iconst 1, 1) := by decide +kernel
theorem dX8_raise_60 : decode cX8_raise 60 = .ok (.iload_n 3, 1) := by decide +kernel
theorem dX8_raise_61 : decode cX8_raise 61 = .ok (.iload 4, 2) := by decide +kernel
theorem dX8_raise_63 : decode cX8_raise 63 = .ok (.isub, 1) := by decide +kernel
theorem dX8_raise_64 : decode cX8_raise 64 = .ok (.iload_n 2, 1) := by decide +kernel
theorem dX8_raise_65 : decode cX8_raise 65 = .ok (.idiv, 1) := by decide +kernel
theorem dX8_raise_66 : decode cX8_raise 66 = .ok (.iadd, 1) := by decide +kernel
theorem dX8_raise_67 : decode cX8_raise 67 = .ok (.ireturn, 1) := by decide +kernel
theorem dX8_passOne_0 : decode cX8_passOne 0 = .ok (.aload_n 0, 1) := by decide +kernel
theorem dX8_passOne_1 : decode cX8_passOne 1 = .ok (.getfield 18, 3) := by decide +kernel
theorem dX8_passOne_4 : decode cX8_passOne 4 = .ok (.iload_n 2, 1) := by decide +kernel
theorem dX8_passOne_5 : decode cX8_passOne 5 = .ok (.dup2, 1) := by decide +kernel
theorem dX8_passOne_6 : decode cX8_passOne 6 = .ok (.iaload, 1) := by decide +kernel
theorem dX8_passOne_7 : decode cX8_passOne 7 = .ok (.iconst 1, 1) := by decide +kernel
theorem dX8_passOne_8 : decode cX8_passOne 8 = .ok (.iadd, 1) := by decide +kernel
theorem dX8_passOne_9 : decode cX8_passOne 9 = .ok (.iastore, 1) := by decide +kernel
theorem dX8_passOne_10 : decode cX8_passOne 10 = .ok (.aload_n 1, 1) := by decide +kernel
theorem dX8_passOne_11 : decode cX8_passOne 11 = .ok (.iload_n 2, 1) := by decide +kernel
theorem dX8_passOne_12 : decode cX8_passOne 12 = .ok (.iload_n 3, 1) := by decide +kernel
theorem dX8_passOne_13 : decode cX8_passOne 13 = .ok (.invokevirtual 93, 3) := by decide +kernel
theorem dX8_passOne_16 : decode cX8_passOne 16 = .ok (.istore 4, 2) := by decide +kernel
theorem dX8_passOne_18 : decode cX8_passOne 18 = .ok (.iload 4, 2) := by decide +kernel
theorem dX8_passOne_20 : decode cX8_passOne 20 = .ok (.ifCond .le 17, 3) := by decide +kernel
theorem dX8_passOne_23 : decode cX8_passOne 23 = .ok (.aload_n 0, 1) := by decide +kernel
theorem dX8_passOne_24 : decode cX8_passOne 24 = .ok (.getfield 18, 3) := by decide +kernel
theorem dX8_passOne_27 : decode cX8_passOne 27 = .ok (.iload_n 2, 1) := by decide +kernel
theorem dX8_passOne_28 : decode cX8_passOne 28 = .ok (.iaload, 1) := by decide +kernel
theorem dX8_passOne_29 : decode cX8_passOne 29 = .ok (.iload 4, 2) := by decide +kernel
theorem dX8_passOne_31 : decode cX8_passOne 31 = .ok (.irem, 1) := by decide +kernel
theorem dX8_passOne_32 : decode cX8_passOne 32 = .ok (.ifCond .ne 5, 3) := by decide +kernel
theorem dX8_passOne_35 : decode cX8_passOne 35 = .ok (.iconst 0, 1) := by decide +kernel
theorem dX8_passOne_36 : decode cX8_passOne 36 = .ok (.ireturn, 1) := by decide +kernel
theorem dX8_passOne_37 : decode cX8_passOne 37 = .ok (.aload_n 0, 1) := by decide +kernel
theorem dX8_passOne_38 : decode cX8_passOne 38 = .ok (.aload_n 1, 1) := by decide +kernel
theorem dX8_passOne_39 : decode cX8_passOne 39 = .ok (.iload_n 2, 1) := by decide +kernel
theorem dX8_passOne_40 : decode cX8_passOne 40 = .ok (.invokevirtual 63, 3) := by decide +kernel
theorem dX8_passOne_43 : decode cX8_passOne 43 = .ok (.aload_n 1, 1) := by decide +kernel
theorem dX8_passOne_44 : decode cX8_passOne 44 = .ok (.getfield 69, 3) := by decide +kernel
theorem dX8_passOne_47 : decode cX8_passOne 47 = .ok (.iconst 3, 1) := by decide +kernel
theorem dX8_passOne_48 : decode cX8_passOne 48 = .ok (.iaload, 1) := by decide +kernel
theorem dX8_passOne_49 : decode cX8_passOne 49 = .ok (.iconst 1, 1) := by decide +kernel
theorem dX8_passOne_50 : decode cX8_passOne 50 = .ok (.invokevirtual 97, 3) := by decide +kernel
theorem dX8_passOne_53 : decode cX8_passOne 53 = .ok (.ifCond .le 7, 3) := by decide +kernel
theorem dX8_passOne_56 : decode cX8_passOne 56 = .ok (.iconst 1, 1) := by decide +kernel
theorem dX8_passOne_57 : decode cX8_passOne 57 = .ok (.goto 4, 3) := by decide +kernel
theorem dX8_passOne_60 : decode cX8_passOne 60 = .ok (.iconst 0, 1) := by decide +kernel
theorem dX8_passOne_61 : decode cX8_passOne 61 = .ok (.ireturn, 1) := by decide +kernel
theorem dX8_tally_0 : decode cX8_tally 0 = .ok (.aload_n 0, 1) := by decide +kernel
theorem dX8_tally_1 : decode cX8_tally 1 = .ok (.aload_n 1, 1) := by decide +kernel
theorem dX8_tally_2 : decode cX8_tally 2 = .ok (.invokevirtual 100, 3) := by decide +kernel
theorem dX8_tally_5 : decode cX8_tally 5 = .ok (.iconst 0, 1) := by decide +kernel
theorem dX8_tally_6 : decode cX8_tally 6 = .ok (.istore_n 2, 1) := by decide +kernel
theorem dX8_tally_7 : decode cX8_tally 7 = .ok (.iconst 0, 1) := by decide +kernel
theorem dX8_tally_8 : decode cX8_tally 8 = .ok (.istore_n 3, 1) := by decide +kernel
theorem dX8_tally_9 : decode cX8_tally 9 = .ok (.iload_n 3, 1) := by decide +kernel
theorem dX8_tally_10 : decode cX8_tally 10 = .ok (.aload_n 0, 1) := by decide +kernel
theorem dX8_tally_11 : decode cX8_tally 11 = .ok (.getfield 24, 3) := by decide +kernel
theorem dX8_tally_14 : decode cX8_tally 14 = .ok (.if_icmp .ge 54, 3) := by decide +kernel
theorem dX8_tally_17 : decode cX8_tally 17 = .ok (.aload_n 0, 1) := by decide +kernel
theorem dX8_tally_18 : decode cX8_tally 18 = .ok (.aload_n 1, 1) := by decide +kernel
theorem dX8_tally_19 : decode cX8_tally 19 = .ok (.aload_n 0, 1) := by decide +kernel
theorem dX8_tally_20 : decode cX8_tally 20 = .ok (.getfield 9, 3) := by decide +kernel
theorem dX8_tally_23 : decode cX8_tally 23 = .ok (.iload_n 3, 1) := by decide +kernel
theorem dX8_tally_24 : decode cX8_tally 24 = .ok (.iaload, 1) := by decide +kernel
theorem dX8_tally_25 : decode cX8_tally 25 = .ok (.invokevirtual 104, 3) := by decide +kernel
theorem dX8_tally_28 : decode cX8_tally 28 = .ok (.istore 4, 2) := by decide +kernel
theorem dX8_tally_30 : decode cX8_tally 30 = .ok (.aload_n 0, 1) := by decide +kernel
theorem dX8_tally_31 : decode cX8_tally 31 = .ok (.getfield 21, 3) := by decide +kernel
theorem dX8_tally_34 : decode cX8_tally 34 = .ok (.aload_n 1, 1) := by decide +kernel
theorem dX8_tally_35 : decode cX8_tally 35 = .ok (.getfield 37, 3) := by decide +kernel
theorem dX8_tally_38 : decode cX8_tally 38 = .ok (.aload_n 0, 1) := by decide +kernel
theorem dX8_tally_39 : decode cX8_tally 39 = .ok (.getfield 9, 3) := by decide +kernel
theorem dX8_tally_42 : decode cX8_tally 42 = .ok (.iload_n 3, 1) := by decide +kernel
theorem dX8_tally_43 : decode cX8_tally 43 = .ok (.iaload, 1) := by decide +kernel
theorem dX8_tally_44 : decode cX8_tally 44 = .ok (.invokestatic 82, 3) := by decide +kernel
theorem dX8_tally_47 : decode cX8_tally 47 = .ok (.aaload, 1) := by decide +kernel
theorem dX8_tally_48 : decode cX8_tally 48 = .ok (.getfield 108, 3) := by decide +kernel
theorem dX8_tally_51 : decode cX8_tally 51 = .ok (.dup2, 1) := by decide +kernel
theorem dX8_tally_52 : decode cX8_tally 52 = .ok (.iaload, 1) := by decide +kernel
theorem dX8_tally_53 : decode cX8_tally 53 = .ok (.iload 4, 2) := by decide +kernel
theorem dX8_tally_55 : decode cX8_tally 55 = .ok (.iadd, 1) := by decide +kernel
theorem dX8_tally_56 : decode cX8_tally 56 = .ok (.iastore, 1) := by decide +kernel
theorem dX8_tally_57 : decode cX8_tally 57 = .ok (.iload_n 2, 1) := by decide +kernel
theorem dX8_tally_58 : decode cX8_tally 58 = .ok (.iload 4, 2) := by decide +kernel
theorem dX8_tally_60 : decode cX8_tally 60 = .ok (.iadd, 1) := by decide +kernel
theorem dX8_tally_61 : decode cX8_tally 61 = .ok (.istore_n 2, 1) := by decide +kernel
theorem dX8_tally_62 : decode cX8_tally 62 = .ok (.iinc 3 1, 3) := by decide +kernel
theorem dX8_tally_65 : decode cX8_tally 65 = .ok (.goto (-56), 3) := by decide +kernel
theorem dX8_tally_68 : decode cX8_tally 68 = .ok (.iload_n 2, 1) := by decide +kernel
theorem dX8_tally_69 : decode cX8_tally 69 = .ok (.ireturn, 1) := by decide +kernel
theorem dX8_sumOf_0 : decode cX8_sumOf 0 = .ok (.aload_n 0, 1) := by decide +kernel
theorem dX8_sumOf_1 : decode cX8_sumOf 1 = .ok (.aload_n 1, 1) := by decide +kernel
theorem dX8_sumOf_2 : decode cX8_sumOf 2 = .ok (.invokevirtual 111, 3) := by decide +kernel
theorem dX8_sumOf_5 : decode cX8_sumOf 5 = .ok (.pop, 1) := by decide +kernel
theorem dX8_sumOf_6 : decode cX8_sumOf 6 = .ok (.aload_n 0, 1) := by decide +kernel
theorem dX8_sumOf_7 : decode cX8_sumOf 7 = .ok (.getfield 21, 3) := by decide +kernel
theorem dX8_sumOf_10 : decode cX8_sumOf 10 = .ok (.iload_n 2, 1) := by decide +kernel
theorem dX8_sumOf_11 : decode cX8_sumOf 11 = .ok (.iaload, 1) := by decide +kernel
theorem dX8_sumOf_12 : decode cX8_sumOf 12 = .ok (.aload_n 1, 1) := by decide +kernel
theorem dX8_sumOf_13 : decode cX8_sumOf 13 = .ok (.getfield 69, 3) := by decide +kernel
theorem dX8_sumOf_16 : decode cX8_sumOf 16 = .ok (.iconst 4, 1) := by decide +kernel
theorem dX8_sumOf_17 : decode cX8_sumOf 17 = .ok (.iaload, 1) := by decide +kernel
theorem dX8_sumOf_18 : decode cX8_sumOf 18 = .ok (.imul, 1) := by decide +kernel
theorem dX8_sumOf_19 : decode cX8_sumOf 19 = .ok (.ireturn, 1) := by decide +kernel
theorem dX8_sumOfOthers_0 : decode cX8_sumOfOthers 0 = .ok (.aload_n 0, 1) := by decide +kernel
theorem dX8_sumOfOthers_1 : decode cX8_sumOfOthers 1 = .ok (.aload_n 1, 1) := by decide +kernel
theorem dX8_sumOfOthers_2 : decode cX8_sumOfOthers 2 = .ok (.invokevirtual 111, 3) := by decide +kernel
theorem dX8_sumOfOthers_5 : decode cX8_sumOfOthers 5 = .ok (.istore_n 3, 1) := by decide +kernel
theorem dX8_sumOfOthers_6 : decode cX8_sumOfOthers 6 = .ok (.iload_n 3, 1) := by decide +kernel
theorem dX8_sumOfOthers_7 : decode cX8_sumOfOthers 7 = .ok (.aload_n 0, 1) := by decide +kernel
theorem dX8_sumOfOthers_8 : decode cX8_sumOfOthers 8 = .ok (.getfield 21, 3) := by decide +kernel
theorem dX8_sumOfOthers_11 : decode cX8_sumOfOthers 11 = .ok (.iload_n 2, 1) := by decide +kernel
theorem dX8_sumOfOthers_12 : decode cX8_sumOfOthers 12 = .ok (.iaload, 1) := by decide +kernel
theorem dX8_sumOfOthers_13 : decode cX8_sumOfOthers 13 = .ok (.isub, 1) := by decide +kernel
theorem dX8_sumOfOthers_14 : decode cX8_sumOfOthers 14 = .ok (.aload_n 1, 1) := by decide +kernel
theorem dX8_sumOfOthers_15 : decode cX8_sumOfOthers 15 = .ok (.getfield 69, 3) := by decide +kernel
theorem dX8_sumOfOthers_18 : decode cX8_sumOfOthers 18 = .ok (.iconst 4, 1) := by decide +kernel
theorem dX8_sumOfOthers_19 : decode cX8_sumOfOthers 19 = .ok (.iaload, 1) := by decide +kernel
theorem dX8_sumOfOthers_20 : decode cX8_sumOfOthers 20 = .ok (.imul, 1) := by decide +kernel
theorem dX8_sumOfOthers_21 : decode cX8_sumOfOthers 21 = .ok (.ireturn, 1) := by decide +kernel
theorem dX8_duesOn_0 : decode cX8_duesOn 0 = .ok (.aload_n 0, 1) := by decide +kernel
theorem dX8_duesOn_1 : decode cX8_duesOn 1 = .ok (.aload_n 1, 1) := by decide +kernel
theorem dX8_duesOn_2 : decode cX8_duesOn 2 = .ok (.invokevirtual 100, 3) := by decide +kernel
theorem dX8_duesOn_5 : decode cX8_duesOn 5 = .ok (.iconst 0, 1) := by decide +kernel
theorem dX8_duesOn_6 : decode cX8_duesOn 6 = .ok (.istore 4, 2) := by decide +kernel
theorem dX8_duesOn_8 : decode cX8_duesOn 8 = .ok (.iconst 0, 1) := by decide +kernel
theorem dX8_duesOn_9 : decode cX8_duesOn 9 = .ok (.istore 5, 2) := by decide +kernel
theorem dX8_duesOn_11 : decode cX8_duesOn 11 = .ok (.iload 5, 2) := by decide +kernel
theorem dX8_duesOn_13 : decode cX8_duesOn 13 = .ok (.aload_n 0, 1) := by decide +kernel
theorem dX8_duesOn_14 : decode cX8_duesOn 14 = .ok (.getfield 24, 3) := by decide +kernel
theorem dX8_duesOn_17 : decode cX8_duesOn 17 = .ok (.if_icmp .ge 81, 3) := by decide +kernel
theorem dX8_duesOn_20 : decode cX8_duesOn 20 = .ok (.aload_n 0, 1) := by decide +kernel
theorem dX8_duesOn_21 : decode cX8_duesOn 21 = .ok (.aload_n 1, 1) := by decide +kernel
theorem dX8_duesOn_22 : decode cX8_duesOn 22 = .ok (.aload_n 0, 1) := by decide +kernel
theorem dX8_duesOn_23 : decode cX8_duesOn 23 = .ok (.getfield 9, 3) := by decide +kernel
theorem dX8_duesOn_26 : decode cX8_duesOn 26 = .ok (.iload 5, 2) := by decide +kernel
theorem dX8_duesOn_28 : decode cX8_duesOn 28 = .ok (.iaload, 1) := by decide +kernel
theorem dX8_duesOn_29 : decode cX8_duesOn 29 = .ok (.invokevirtual 104, 3) := by decide +kernel
theorem dX8_duesOn_32 : decode cX8_duesOn 32 = .ok (.istore 6, 2) := by decide +kernel
theorem dX8_duesOn_34 : decode cX8_duesOn 34 = .ok (.aload_n 1, 1) := by decide +kernel
theorem dX8_duesOn_35 : decode cX8_duesOn 35 = .ok (.getfield 37, 3) := by decide +kernel
theorem dX8_duesOn_38 : decode cX8_duesOn 38 = .ok (.aload_n 0, 1) := by decide +kernel
theorem dX8_duesOn_39 : decode cX8_duesOn 39 = .ok (.getfield 9, 3) := by decide +kernel
theorem dX8_duesOn_42 : decode cX8_duesOn 42 = .ok (.iload 5, 2) := by decide +kernel
theorem dX8_duesOn_44 : decode cX8_duesOn 44 = .ok (.iaload, 1) := by decide +kernel
theorem dX8_duesOn_45 : decode cX8_duesOn 45 = .ok (.invokestatic 82, 3) := by decide +kernel
theorem dX8_duesOn_48 : decode cX8_duesOn 48 = .ok (.aaload, 1) := by decide +kernel
theorem dX8_duesOn_49 : decode cX8_duesOn 49 = .ok (.getfield 108, 3) := by decide +kernel
theorem dX8_duesOn_52 : decode cX8_duesOn 52 = .ok (.iload_n 2, 1) := by decide +kernel
theorem dX8_duesOn_53 : decode cX8_duesOn 53 = .ok (.if_icmp .ne 7, 3) := by decide +kernel
theorem dX8_duesOn_56 : decode cX8_duesOn 56 = .ok (.iconst 1, 1) := by decide +kernel
theorem dX8_duesOn_57 : decode cX8_duesOn 57 = .ok (.goto 4, 3) := by decide +kernel
theorem dX8_duesOn_60 : decode cX8_duesOn 60 = .ok (.iconst 0, 1) := by decide +kernel
theorem dX8_duesOn_61 : decode cX8_duesOn 61 = .ok (.istore 7, 2) := by decide +kernel
theorem dX8_duesOn_63 : decode cX8_duesOn 63 = .ok (.iload 7, 2) := by decide +kernel
theorem dX8_duesOn_65 : decode cX8_duesOn 65 = .ok (.ifCond .eq 27, 3) := by decide +kernel
theorem dX8_duesOn_68 : decode cX8_duesOn 68 = .ok (.aload_n 0, 1) := by decide +kernel
theorem dX8_duesOn_69 : decode cX8_duesOn 69 = .ok (.getfield 9, 3) := by decide +kernel
theorem dX8_duesOn_72 : decode cX8_duesOn 72 = .ok (.iload 5, 2) := by decide +kernel
theorem dX8_duesOn_74 : decode cX8_duesOn 74 = .ok (.iaload, 1) := by decide +kernel
theorem dX8_duesOn_75 : decode cX8_duesOn 75 = .ok (.invokestatic 75, 3) := by decide +kernel
theorem dX8_duesOn_78 : decode cX8_duesOn 78 = .ok (.bipush 24, 2) := by decide +kernel
theorem dX8_duesOn_80 : decode cX8_duesOn 80 = .ok (.idiv, 1) := by decide +kernel
theorem dX8_duesOn_81 : decode cX8_duesOn 81 = .ok (.iload_n 3, 1) := by decide +kernel
theorem dX8_duesOn_82 : decode cX8_duesOn 82 = .ok (.if_icmp .ne 10, 3) := by decide +kernel
theorem dX8_duesOn_85 : decode cX8_duesOn 85 = .ok (.iload 4, 2) := by decide +kernel
theorem dX8_duesOn_87 : decode cX8_duesOn 87 = .ok (.iload 6, 2) := by decide +kernel
theorem dX8_duesOn_89 : decode cX8_duesOn 89 = .ok (.iadd, 1) := by decide +kernel
theorem dX8_duesOn_90 : decode cX8_duesOn 90 = .ok (.istore 4, 2) := by decide +kernel
theorem dX8_duesOn_92 : decode cX8_duesOn 92 = .ok (.iinc 5 1, 3) := by decide +kernel
theorem dX8_duesOn_95 : decode cX8_duesOn 95 = .ok (.goto (-84), 3) := by decide +kernel
theorem dX8_duesOn_98 : decode cX8_duesOn 98 = .ok (.iload 4, 2) := by decide +kernel
theorem dX8_duesOn_100 : decode cX8_duesOn 100 = .ok (.ireturn, 1) := by decide +kernel
theorem dX8_goUntil_0 : decode cX8_goUntil 0 = .ok (.aload_n 0, 1) := by decide +kernel
theorem dX8_goUntil_1 : decode cX8_goUntil 1 = .ok (.aload_n 1, 1) := by decide +kernel
theorem dX8_goUntil_2 : decode cX8_goUntil 2 = .ok (.invokevirtual 100, 3) := by decide +kernel
theorem dX8_goUntil_5 : decode cX8_goUntil 5 = .ok (.iconst 0, 1) := by decide +kernel
theorem dX8_goUntil_6 : decode cX8_goUntil 6 = .ok (.istore_n 3, 1) := by decide +kernel
theorem dX8_goUntil_7 : decode cX8_goUntil 7 = .ok (.iload_n 3, 1) := by decide +kernel
theorem dX8_goUntil_8 : decode cX8_goUntil 8 = .ok (.aload_n 0, 1) := by decide +kernel
theorem dX8_goUntil_9 : decode cX8_goUntil 9 = .ok (.getfield 24, 3) := by decide +kernel
theorem dX8_goUntil_12 : decode cX8_goUntil 12 = .ok (.if_icmp .ge 34, 3) := by decide +kernel
theorem dX8_goUntil_15 : decode cX8_goUntil 15 = .ok (.aload_n 0, 1) := by decide +kernel
theorem dX8_goUntil_16 : decode cX8_goUntil 16 = .ok (.getfield 9, 3) := by decide +kernel
theorem dX8_goUntil_19 : decode cX8_goUntil 19 = .ok (.iload_n 3, 1) := by decide +kernel
theorem dX8_goUntil_20 : decode cX8_goUntil 20 = .ok (.iaload, 1) := by decide +kernel
theorem dX8_goUntil_21 : decode cX8_goUntil 21 = .ok (.invokestatic 75, 3) := by decide +kernel
theorem dX8_goUntil_24 : decode cX8_goUntil 24 = .ok (.iload_n 2, 1) := by decide +kernel
theorem dX8_goUntil_25 : decode cX8_goUntil 25 = .ok (.if_icmp .gt 21, 3) := by decide +kernel
theorem dX8_goUntil_28 : decode cX8_goUntil 28 = .ok (.aload_n 0, 1) := by decide +kernel
theorem dX8_goUntil_29 : decode cX8_goUntil 29 = .ok (.aload_n 1, 1) := by decide +kernel
theorem dX8_goUntil_30 : decode cX8_goUntil 30 = .ok (.aload_n 0, 1) := by decide +kernel
theorem dX8_goUntil_31 : decode cX8_goUntil 31 = .ok (.getfield 9, 3) := by decide +kernel
theorem dX8_goUntil_34 : decode cX8_goUntil 34 = .ok (.iload_n 3, 1) := by decide +kernel
theorem dX8_goUntil_35 : decode cX8_goUntil 35 = .ok (.iaload, 1) := by decide +kernel
theorem dX8_goUntil_36 : decode cX8_goUntil 36 = .ok (.invokevirtual 104, 3) := by decide +kernel
theorem dX8_goUntil_39 : decode cX8_goUntil 39 = .ok (.pop, 1) := by decide +kernel
theorem dX8_goUntil_40 : decode cX8_goUntil 40 = .ok (.iinc 3 1, 3) := by decide +kernel
theorem dX8_goUntil_43 : decode cX8_goUntil 43 = .ok (.goto (-36), 3) := by decide +kernel
theorem dX8_goUntil_46 : decode cX8_goUntil 46 = .ok (.aload_n 0, 1) := by decide +kernel
theorem dX8_goUntil_47 : decode cX8_goUntil 47 = .ok (.aload_n 1, 1) := by decide +kernel
theorem dX8_goUntil_48 : decode cX8_goUntil 48 = .ok (.iload_n 2, 1) := by decide +kernel
theorem dX8_goUntil_49 : decode cX8_goUntil 49 = .ok (.bipush 24, 2) := by decide +kernel
theorem dX8_goUntil_51 : decode cX8_goUntil 51 = .ok (.idiv, 1) := by decide +kernel
theorem dX8_goUntil_52 : decode cX8_goUntil 52 = .ok (.invokevirtual 78, 3) := by decide +kernel
theorem dX8_goUntil_55 : decode cX8_goUntil 55 = .ok (.return_, 1) := by decide +kernel
theorem dX8_goThrough_0 : decode cX8_goThrough 0 = .ok (.aload_n 0, 1) := by decide +kernel
theorem dX8_goThrough_1 : decode cX8_goThrough 1 = .ok (.aload_n 1, 1) := by decide +kernel
theorem dX8_goThrough_2 : decode cX8_goThrough 2 = .ok (.bipush 24, 2) := by decide +kernel
theorem dX8_goThrough_4 : decode cX8_goThrough 4 = .ok (.aload_n 1, 1) := by decide +kernel
theorem dX8_goThrough_5 : decode cX8_goThrough 5 = .ok (.getfield 115, 3) := by decide +kernel
theorem dX8_goThrough_8 : decode cX8_goThrough 8 = .ok (.imul, 1) := by decide +kernel
theorem dX8_goThrough_9 : decode cX8_goThrough 9 = .ok (.iconst 1, 1) := by decide +kernel
theorem dX8_goThrough_10 : decode cX8_goThrough 10 = .ok (.isub, 1) := by decide +kernel
theorem dX8_goThrough_11 : decode cX8_goThrough 11 = .ok (.invokevirtual 118, 3) := by decide +kernel
theorem dX8_goThrough_14 : decode cX8_goThrough 14 = .ok (.return_, 1) := by decide +kernel
theorem dX8_goAhead_0 : decode cX8_goAhead 0 = .ok (.aload_n 0, 1) := by decide +kernel
theorem dX8_goAhead_1 : decode cX8_goAhead 1 = .ok (.aload_n 1, 1) := by decide +kernel
theorem dX8_goAhead_2 : decode cX8_goAhead 2 = .ok (.invokevirtual 100, 3) := by decide +kernel
theorem dX8_goAhead_5 : decode cX8_goAhead 5 = .ok (.iconst 0, 1) := by decide +kernel
theorem dX8_goAhead_6 : decode cX8_goAhead 6 = .ok (.istore 4, 2) := by decide +kernel
theorem dX8_goAhead_8 : decode cX8_goAhead 8 = .ok (.iload 4, 2) := by decide +kernel
theorem dX8_goAhead_10 : decode cX8_goAhead 10 = .ok (.aload_n 0, 1) := by decide +kernel
theorem dX8_goAhead_11 : decode cX8_goAhead 11 = .ok (.getfield 24, 3) := by decide +kernel
theorem dX8_goAhead_14 : decode cX8_goAhead 14 = .ok (.if_icmp .ge 63, 3) := by decide +kernel
theorem dX8_goAhead_17 : decode cX8_goAhead 17 = .ok (.aload_n 0, 1) := by decide +kernel
theorem dX8_goAhead_18 : decode cX8_goAhead 18 = .ok (.getfield 9, 3) := by decide +kernel
theorem dX8_goAhead_21 : decode cX8_goAhead 21 = .ok (.iload 4, 2) := by decide +kernel
theorem dX8_goAhead_23 : decode cX8_goAhead 23 = .ok (.iaload, 1) := by decide +kernel
theorem dX8_goAhead_24 : decode cX8_goAhead 24 = .ok (.invokestatic 75, 3) := by decide +kernel
theorem dX8_goAhead_27 : decode cX8_goAhead 27 = .ok (.bipush 24, 2) := by decide +kernel
theorem dX8_goAhead_29 : decode cX8_goAhead 29 = .ok (.idiv, 1) := by decide +kernel
theorem dX8_goAhead_30 : decode cX8_goAhead 30 = .ok (.istore 5, 2) := by decide +kernel
theorem dX8_goAhead_32 : decode cX8_goAhead 32 = .ok (.iload 5, 2) := by decide +kernel
theorem dX8_goAhead_34 : decode cX8_goAhead 34 = .ok (.iload_n 3, 1) := by decide +kernel
theorem dX8_goAhead_35 : decode cX8_goAhead 35 = .ok (.if_icmp .lt 23, 3) := by decide +kernel
theorem dX8_goAhead_38 : decode cX8_goAhead 38 = .ok (.iload 5, 2) := by decide +kernel
theorem dX8_goAhead_40 : decode cX8_goAhead 40 = .ok (.iload_n 3, 1) := by decide +kernel
theorem dX8_goAhead_41 : decode cX8_goAhead 41 = .ok (.if_icmp .ne 30, 3) := by decide +kernel
theorem dX8_goAhead_44 : decode cX8_goAhead 44 = .ok (.aload_n 0, 1) := by decide +kernel
theorem dX8_goAhead_45 : decode cX8_goAhead 45 = .ok (.getfield 9, 3) := by decide +kernel
theorem dX8_goAhead_48 : decode cX8_goAhead 48 = .ok (.iload 4, 2) := by decide +kernel
theorem dX8_goAhead_50 : decode cX8_goAhead 50 = .ok (.iaload, 1) := by decide +kernel
theorem dX8_goAhead_51 : decode cX8_goAhead 51 = .ok (.invokestatic 72, 3) := by decide +kernel
theorem dX8_goAhead_54 : decode cX8_goAhead 54 = .ok (.iload_n 2, 1) := by decide +kernel
theorem dX8_goAhead_55 : decode cX8_goAhead 55 = .ok (.if_icmp .eq 16, 3) := by decide +kernel
theorem dX8_goAhead_58 : decode cX8_goAhead 58 = .ok (.aload_n 0, 1) := by decide +kernel
theorem dX8_goAhead_59 : decode cX8_goAhead 59 = .ok (.aload_n 1, 1) := by decide +kernel
theorem dX8_goAhead_60 : decode cX8_goAhead 60 = .ok (.aload_n 0, 1) := by decide +kernel
theorem dX8_goAhead_61 : decode cX8_goAhead 61 = .ok (.getfield 9, 3) := by decide +kernel
theorem dX8_goAhead_64 : decode cX8_goAhead 64 = .ok (.iload 4, 2) := by decide +kernel
theorem dX8_goAhead_66 : decode cX8_goAhead 66 = .ok (.iaload, 1) := by decide +kernel
theorem dX8_goAhead_67 : decode cX8_goAhead 67 = .ok (.invokevirtual 104, 3) := by decide +kernel
theorem dX8_goAhead_70 : decode cX8_goAhead 70 = .ok (.pop, 1) := by decide +kernel
theorem dX8_goAhead_71 : decode cX8_goAhead 71 = .ok (.iinc 4 1, 3) := by decide +kernel
theorem dX8_goAhead_74 : decode cX8_goAhead 74 = .ok (.goto (-66), 3) := by decide +kernel
theorem dX8_goAhead_77 : decode cX8_goAhead 77 = .ok (.aload_n 0, 1) := by decide +kernel
theorem dX8_goAhead_78 : decode cX8_goAhead 78 = .ok (.aload_n 1, 1) := by decide +kernel
theorem dX8_goAhead_79 : decode cX8_goAhead 79 = .ok (.iload_n 3, 1) := by decide +kernel
theorem dX8_goAhead_80 : decode cX8_goAhead 80 = .ok (.invokevirtual 78, 3) := by decide +kernel
theorem dX8_goAhead_83 : decode cX8_goAhead 83 = .ok (.return_, 1) := by decide +kernel
theorem dX8_stillFree_0 : decode cX8_stillFree 0 = .ok (.aload_n 0, 1) := by decide +kernel
theorem dX8_stillFree_1 : decode cX8_stillFree 1 = .ok (.aload_n 1, 1) := by decide +kernel
theorem dX8_stillFree_2 : decode cX8_stillFree 2 = .ok (.invokevirtual 121, 3) := by decide +kernel
theorem dX8_stillFree_5 : decode cX8_stillFree 5 = .ok (.iconst 1, 1) := by decide +kernel
theorem dX8_stillFree_6 : decode cX8_stillFree 6 = .ok (.aload_n 1, 1) := by decide +kernel
theorem dX8_stillFree_7 : decode cX8_stillFree 7 = .ok (.getfield 69, 3) := by decide +kernel
theorem dX8_stillFree_10 : decode cX8_stillFree 10 = .ok (.iconst 3, 1) := by decide +kernel
theorem dX8_stillFree_11 : decode cX8_stillFree 11 = .ok (.iaload, 1) := by decide +kernel
theorem dX8_stillFree_12 : decode cX8_stillFree 12 = .ok (.aload_n 0, 1) := by decide +kernel
theorem dX8_stillFree_13 : decode cX8_stillFree 13 = .ok (.getfield 15, 3) := by decide +kernel
theorem dX8_stillFree_16 : decode cX8_stillFree 16 = .ok (.aload_n 1, 1) := by decide +kernel
theorem dX8_stillFree_17 : decode cX8_stillFree 17 = .ok (.iload_n 2, 1) := by decide +kernel
theorem dX8_stillFree_18 : decode cX8_stillFree 18 = .ok (.invokevirtual 63, 3) := by decide +kernel
theorem dX8_stillFree_21 : decode cX8_stillFree 21 = .ok (.iaload, 1) := by decide +kernel
theorem dX8_stillFree_22 : decode cX8_stillFree 22 = .ok (.isub, 1) := by decide +kernel
theorem dX8_stillFree_23 : decode cX8_stillFree 23 = .ok (.invokestatic 124, 3) := by decide +kernel
theorem dX8_stillFree_26 : decode cX8_stillFree 26 = .ok (.ireturn, 1) := by decide +kernel
theorem dX8_findDue_0 : decode cX8_findDue 0 = .ok (.aload_n 0, 1) := by decide +kernel
theorem dX8_findDue_1 : decode cX8_findDue 1 = .ok (.aload_n 1, 1) := by decide +kernel
theorem dX8_findDue_2 : decode cX8_findDue 2 = .ok (.invokevirtual 100, 3) := by decide +kernel
theorem dX8_findDue_5 : decode cX8_findDue 5 = .ok (.iload_n 2, 1) := by decide +kernel
theorem dX8_findDue_6 : decode cX8_findDue 6 = .ok (.istore_n 3, 1) := by decide +kernel
theorem dX8_findDue_7 : decode cX8_findDue 7 = .ok (.iconst 0, 1) := by decide +kernel
theorem dX8_findDue_8 : decode cX8_findDue 8 = .ok (.istore 4, 2) := by decide +kernel
theorem dX8_findDue_10 : decode cX8_findDue 10 = .ok (.iload 4, 2) := by decide +kernel
theorem dX8_findDue_12 : decode cX8_findDue 12 = .ok (.aload_n 0, 1) := by decide +kernel
theorem dX8_findDue_13 : decode cX8_findDue 13 = .ok (.getfield 24, 3) := by decide +kernel
theorem dX8_findDue_16 : decode cX8_findDue 16 = .ok (.if_icmp .ge 141, 3) := by decide +kernel
theorem dX8_findDue_19 : decode cX8_findDue 19 = .ok (.aload_n 0, 1) := by decide +kernel
theorem dX8_findDue_20 : decode cX8_findDue 20 = .ok (.getfield 9, 3) := by decide +kernel
theorem dX8_findDue_23 : decode cX8_findDue 23 = .ok (.iload 4, 2) := by decide +kernel
theorem dX8_findDue_25 : decode cX8_findDue 25 = .ok (.iaload, 1) := by decide +kernel
theorem dX8_findDue_26 : decode cX8_findDue 26 = .ok (.invokestatic 72, 3) := by decide +kernel
theorem dX8_findDue_29 : decode cX8_findDue 29 = .ok (.istore 5, 2) := by decide +kernel
theorem dX8_findDue_31 : decode cX8_findDue 31 = .ok (.aload_n 1, 1) := by decide +kernel
theorem dX8_findDue_32 : decode cX8_findDue 32 = .ok (.iload 5, 2) := by decide +kernel
theorem dX8_findDue_34 : decode cX8_findDue 34 = .ok (.invokevirtual 63, 3) := by decide +kernel
theorem dX8_findDue_37 : decode cX8_findDue 37 = .ok (.istore 6, 2) := by decide +kernel
theorem dX8_findDue_39 : decode cX8_findDue 39 = .ok (.aload_n 0, 1) := by decide +kernel
theorem dX8_findDue_40 : decode cX8_findDue 40 = .ok (.aload_n 1, 1) := by decide +kernel
theorem dX8_findDue_41 : decode cX8_findDue 41 = .ok (.aload_n 0, 1) := by decide +kernel
theorem dX8_findDue_42 : decode cX8_findDue 42 = .ok (.getfield 9, 3) := by decide +kernel
theorem dX8_findDue_45 : decode cX8_findDue 45 = .ok (.iload 4, 2) := by decide +kernel
theorem dX8_findDue_47 : decode cX8_findDue 47 = .ok (.iaload, 1) := by decide +kernel
theorem dX8_findDue_48 : decode cX8_findDue 48 = .ok (.invokestatic 75, 3) := by decide +kernel
theorem dX8_findDue_51 : decode cX8_findDue 51 = .ok (.bipush 24, 2) := by decide +kernel
theorem dX8_findDue_53 : decode cX8_findDue 53 = .ok (.idiv, 1) := by decide +kernel
theorem dX8_findDue_54 : decode cX8_findDue 54 = .ok (.invokevirtual 78, 3) := by decide +kernel
theorem dX8_findDue_57 : decode cX8_findDue 57 = .ok (.aload_n 0, 1) := by decide +kernel
theorem dX8_findDue_58 : decode cX8_findDue 58 = .ok (.getfield 15, 3) := by decide +kernel
theorem dX8_findDue_61 : decode cX8_findDue 61 = .ok (.iload 6, 2) := by decide +kernel
theorem dX8_findDue_63 : decode cX8_findDue 63 = .ok (.iaload, 1) := by decide +kernel
theorem dX8_findDue_64 : decode cX8_findDue 64 = .ok (.istore 7, 2) := by decide +kernel
theorem dX8_findDue_66 : decode cX8_findDue 66 = .ok (.aload_n 0, 1) := by decide +kernel
theorem dX8_findDue_67 : decode cX8_findDue 67 = .ok (.getfield 18, 3) := by decide +kernel
theorem dX8_findDue_70 : decode cX8_findDue 70 = .ok (.iload 5, 2) := by decide +kernel
theorem dX8_findDue_72 : decode cX8_findDue 72 = .ok (.iaload, 1) := by decide +kernel
theorem dX8_findDue_73 : decode cX8_findDue 73 = .ok (.istore 8, 2) := by decide +kernel
theorem dX8_findDue_75 : decode cX8_findDue 75 = .ok (.aload_n 0, 1) := by decide +kernel
theorem dX8_findDue_76 : decode cX8_findDue 76 = .ok (.aload_n 1, 1) := by decide +kernel
theorem dX8_findDue_77 : decode cX8_findDue 77 = .ok (.aload_n 0, 1) := by decide +kernel
theorem dX8_findDue_78 : decode cX8_findDue 78 = .ok (.getfield 9, 3) := by decide +kernel
theorem dX8_findDue_81 : decode cX8_findDue 81 = .ok (.iload 4, 2) := by decide +kernel
theorem dX8_findDue_83 : decode cX8_findDue 83 = .ok (.iaload, 1) := by decide +kernel
theorem dX8_findDue_84 : decode cX8_findDue 84 = .ok (.invokevirtual 104, 3) := by decide +kernel
theorem dX8_findDue_87 : decode cX8_findDue 87 = .ok (.istore 9, 2) := by decide +kernel
theorem dX8_findDue_89 : decode cX8_findDue 89 = .ok (.iload_n 3, 1) := by decide +kernel
theorem dX8_findDue_90 : decode cX8_findDue 90 = .ok (.iload 9, 2) := by decide +kernel
theorem dX8_findDue_92 : decode cX8_findDue 92 = .ok (.if_icmp .ge 54, 3) := by decide +kernel
theorem dX8_findDue_95 : decode cX8_findDue 95 = .ok (.aload_n 0, 1) := by decide +kernel
theorem dX8_findDue_96 : decode cX8_findDue 96 = .ok (.getfield 15, 3) := by decide +kernel
theorem dX8_findDue_99 : decode cX8_findDue 99 = .ok (.iload 6, 2) := by decide +kernel
theorem dX8_findDue_101 : decode cX8_findDue 101 = .ok (.iload 7, 2) := by decide +kernel
theorem dX8_findDue_103 : decode cX8_findDue 103 = .ok (.iastore, 1) := by decide +kernel
theorem dX8_findDue_104 : decode cX8_findDue 104 = .ok (.aload_n 0, 1) := by decide +kernel
theorem dX8_findDue_105 : decode cX8_findDue 105 = .ok (.getfield 18, 3) := by decide +kernel
theorem dX8_findDue_108 : decode cX8_findDue 108 = .ok (.iload 5, 2) := by decide +kernel
theorem dX8_findDue_110 : decode cX8_findDue 110 = .ok (.iload 8, 2) := by decide +kernel
theorem dX8_findDue_112 : decode cX8_findDue 112 = .ok (.iastore, 1) := by decide +kernel
theorem dX8_findDue_113 : decode cX8_findDue 113 = .ok (.aload_n 0, 1) := by decide +kernel
theorem dX8_findDue_114 : decode cX8_findDue 114 = .ok (.aload_n 0, 1) := by decide +kernel
theorem dX8_findDue_115 : decode cX8_findDue 115 = .ok (.getfield 9, 3) := by decide +kernel
theorem dX8_findDue_118 : decode cX8_findDue 118 = .ok (.iload 4, 2) := by decide +kernel
theorem dX8_findDue_120 : decode cX8_findDue 120 = .ok (.iaload, 1) := by decide +kernel
theorem dX8_findDue_121 : decode cX8_findDue 121 = .ok (.invokestatic 82, 3) := by decide +kernel
theorem dX8_findDue_124 : decode cX8_findDue 124 = .ok (.putfield 129, 3) := by decide +kernel
theorem dX8_findDue_127 : decode cX8_findDue 127 = .ok (.aload_n 0, 1) := by decide +kernel
theorem dX8_findDue_128 : decode cX8_findDue 128 = .ok (.aload_n 0, 1) := by decide +kernel
theorem dX8_findDue_129 : decode cX8_findDue 129 = .ok (.aload_n 1, 1) := by decide +kernel
theorem dX8_findDue_130 : decode cX8_findDue 130 = .ok (.aload_n 0, 1) := by decide +kernel
theorem dX8_findDue_131 : decode cX8_findDue 131 = .ok (.getfield 9, 3) := by decide +kernel
theorem dX8_findDue_134 : decode cX8_findDue 134 = .ok (.iload 4, 2) := by decide +kernel
theorem dX8_findDue_136 : decode cX8_findDue 136 = .ok (.iaload, 1) := by decide +kernel
theorem dX8_findDue_137 : decode cX8_findDue 137 = .ok (.iload_n 3, 1) := by decide +kernel
theorem dX8_findDue_138 : decode cX8_findDue 138 = .ok (.invokevirtual 132, 3) := by decide +kernel
theorem dX8_findDue_141 : decode cX8_findDue 141 = .ok (.putfield 136, 3) := by decide +kernel
theorem dX8_findDue_144 : decode cX8_findDue 144 = .ok (.iconst 1, 1) := by decide +kernel
theorem dX8_findDue_145 : decode cX8_findDue 145 = .ok (.ireturn, 1) := by decide +kernel
theorem dX8_findDue_146 : decode cX8_findDue 146 = .ok (.iload_n 3, 1) := by decide +kernel
theorem dX8_findDue_147 : decode cX8_findDue 147 = .ok (.iload 9, 2) := by decide +kernel
theorem dX8_findDue_149 : decode cX8_findDue 149 = .ok (.isub, 1) := by decide +kernel
theorem dX8_findDue_150 : decode cX8_findDue 150 = .ok (.istore_n 3, 1) := by decide +kernel
theorem dX8_findDue_151 : decode cX8_findDue 151 = .ok (.iinc 4 1, 3) := by decide +kernel
theorem dX8_findDue_154 : decode cX8_findDue 154 = .ok (.goto (-144), 3) := by decide +kernel
theorem dX8_findDue_157 : decode cX8_findDue 157 = .ok (.iconst 0, 1) := by decide +kernel
theorem dX8_findDue_158 : decode cX8_findDue 158 = .ok (.ireturn, 1) := by decide +kernel
theorem dX8_placeOf_0 : decode cX8_placeOf 0 = .ok (.iload_n 2, 1) := by decide +kernel
theorem dX8_placeOf_1 : decode cX8_placeOf 1 = .ok (.invokestatic 75, 3) := by decide +kernel
theorem dX8_placeOf_4 : decode cX8_placeOf 4 = .ok (.bipush 24, 2) := by decide +kernel
theorem dX8_placeOf_6 : decode cX8_placeOf 6 = .ok (.idiv, 1) := by decide +kernel
theorem dX8_placeOf_7 : decode cX8_placeOf 7 = .ok (.istore 4, 2) := by decide +kernel
theorem dX8_placeOf_9 : decode cX8_placeOf 9 = .ok (.aload_n 1, 1) := by decide +kernel
theorem dX8_placeOf_10 : decode cX8_placeOf 10 = .ok (.getfield 37, 3) := by decide +kernel
theorem dX8_placeOf_13 : decode cX8_placeOf 13 = .ok (.iload_n 2, 1) := by decide +kernel
theorem dX8_placeOf_14 : decode cX8_placeOf 14 = .ok (.invokestatic 82, 3) := by decide +kernel
theorem dX8_placeOf_17 : decode cX8_placeOf 17 = .ok (.aaload, 1) := by decide +kernel
theorem dX8_placeOf_18 : decode cX8_placeOf 18 = .ok (.aload_n 1, 1) := by decide +kernel
theorem dX8_placeOf_19 : decode cX8_placeOf 19 = .ok (.iload 4, 2) := by decide +kernel
theorem dX8_placeOf_21 : decode cX8_placeOf 21 = .ok (.invokevirtual 85, 3) := by decide +kernel
theorem dX8_placeOf_24 : decode cX8_placeOf 24 = .ok (.invokevirtual 89, 3) := by decide +kernel
theorem dX8_placeOf_27 : decode cX8_placeOf 27 = .ok (.istore 5, 2) := by decide +kernel
theorem dX8_placeOf_29 : decode cX8_placeOf 29 = .ok (.iload_n 3, 1) := by decide +kernel
theorem dX8_placeOf_30 : decode cX8_placeOf 30 = .ok (.istore 6, 2) := by decide +kernel
theorem dX8_placeOf_32 : decode cX8_placeOf 32 = .ok (.iconst 0, 1) := by decide +kernel
theorem dX8_placeOf_33 : decode cX8_placeOf 33 = .ok (.istore 7, 2) := by decide +kernel
theorem dX8_placeOf_35 : decode cX8_placeOf 35 = .ok (.iload 7, 2) := by decide +kernel
theorem dX8_placeOf_37 : decode cX8_placeOf 37 = .ok (.iload 5, 2) := by decide +kernel
theorem dX8_placeOf_39 : decode cX8_placeOf 39 = .ok (.if_icmp .ge 34, 3) := by decide +kernel
theorem dX8_placeOf_42 : decode cX8_placeOf 42 = .ok (.aload_n 0, 1) := by decide +kernel
theorem dX8_placeOf_43 : decode cX8_placeOf 43 = .ok (.aload_n 1, 1) := by decide +kernel
theorem dX8_placeOf_44 : decode cX8_placeOf 44 = .ok (.iload_n 2, 1) := by decide +kernel
theorem dX8_placeOf_45 : decode cX8_placeOf 45 = .ok (.invokestatic 72, 3) := by decide +kernel
theorem dX8_placeOf_48 : decode cX8_placeOf 48 = .ok (.iload 4, 2) := by decide +kernel
theorem dX8_placeOf_50 : decode cX8_placeOf 50 = .ok (.invokevirtual 139, 3) := by decide +kernel
theorem dX8_placeOf_53 : decode cX8_placeOf 53 = .ok (.ifCond .eq 14, 3) := by decide +kernel
theorem dX8_placeOf_56 : decode cX8_placeOf 56 = .ok (.iload 6, 2) := by decide +kernel
theorem dX8_placeOf_58 : decode cX8_placeOf 58 = .ok (.ifCond .ne 6, 3) := by decide +kernel
theorem dX8_placeOf_61 : decode cX8_placeOf 61 = .ok (.iload 7, 2) := by decide +kernel
theorem dX8_placeOf_63 : decode cX8_placeOf 63 = .ok (.ireturn, 1) := by decide +kernel
theorem dX8_placeOf_64 : decode cX8_placeOf 64 = .ok (.iinc 6 (-1), 3) := by decide +kernel
theorem dX8_placeOf_67 : decode cX8_placeOf 67 = .ok (.iinc 7 1, 3) := by decide +kernel
theorem dX8_placeOf_70 : decode cX8_placeOf 70 = .ok (.goto (-35), 3) := by decide +kernel
theorem dX8_placeOf_73 : decode cX8_placeOf 73 = .ok (.iconst (-1), 1) := by decide +kernel
theorem dX8_placeOf_74 : decode cX8_placeOf 74 = .ok (.ireturn, 1) := by decide +kernel
theorem dX9_init_0 : decode cX9_init 0 = .ok (.aload_n 0, 1) := by decide +kernel
theorem dX9_init_1 : decode cX9_init 1 = .ok (.invokespecial 1, 3) := by decide +kernel
theorem dX9_init_4 : decode cX9_init 4 = .ok (.aload_n 0, 1) := by decide +kernel
theorem dX9_init_5 : decode cX9_init 5 = .ok (.new 7, 3) := by decide +kernel
theorem dX9_init_8 : decode cX9_init 8 = .ok (.dup, 1) := by decide +kernel
theorem dX9_init_9 : decode cX9_init 9 = .ok (.invokespecial 9, 3) := by decide +kernel
theorem dX9_init_12 : decode cX9_init 12 = .ok (.putfield 10, 3) := by decide +kernel
theorem dX9_init_15 : decode cX9_init 15 = .ok (.aload_n 0, 1) := by decide +kernel
theorem dX9_init_16 : decode cX9_init 16 = .ok (.new 16, 3) := by decide +kernel
theorem dX9_init_19 : decode cX9_init 19 = .ok (.dup, 1) := by decide +kernel
theorem dX9_init_20 : decode cX9_init 20 = .ok (.invokespecial 18, 3) := by decide +kernel
theorem dX9_init_23 : decode cX9_init 23 = .ok (.putfield 19, 3) := by decide +kernel
theorem dX9_init_26 : decode cX9_init 26 = .ok (.aload_n 0, 1) := by decide +kernel
theorem dX9_init_27 : decode cX9_init 27 = .ok (.new 16, 3) := by decide +kernel
theorem dX9_init_30 : decode cX9_init 30 = .ok (.dup, 1) := by decide +kernel
theorem dX9_init_31 : decode cX9_init 31 = .ok (.invokespecial 18, 3) := by decide +kernel
theorem dX9_init_34 : decode cX9_init 34 = .ok (.putfield 23, 3) := by decide +kernel
theorem dX9_init_37 : decode cX9_init 37 = .ok (.aload_n 0, 1) := by decide +kernel
theorem dX9_init_38 : decode cX9_init 38 = .ok (.new 26, 3) := by decide +kernel
theorem dX9_init_41 : decode cX9_init 41 = .ok (.dup, 1) := by decide +kernel
theorem dX9_init_42 : decode cX9_init 42 = .ok (.aload_n 0, 1) := by decide +kernel
theorem dX9_init_43 : decode cX9_init 43 = .ok (.getfield 10, 3) := by decide +kernel
theorem dX9_init_46 : decode cX9_init 46 = .ok (.aload_n 0, 1) := by decide +kernel
theorem dX9_init_47 : decode cX9_init 47 = .ok (.getfield 23, 3) := by decide +kernel
theorem dX9_init_50 : decode cX9_init 50 = .ok (.invokespecial 28, 3) := by decide +kernel
theorem dX9_init_53 : decode cX9_init 53 = .ok (.putfield 31, 3) := by decide +kernel
theorem dX9_init_56 : decode cX9_init 56 = .ok (.aload_n 0, 1) := by decide +kernel
theorem dX9_init_57 : decode cX9_init 57 = .ok (.iconst 3, 1) := by decide +kernel
theorem dX9_init_58 : decode cX9_init 58 = .ok (.anewarray 16, 3) := by decide +kernel
theorem dX9_init_61 : decode cX9_init 61 = .ok (.putfield 35, 3) := by decide +kernel
theorem dX9_init_64 : decode cX9_init 64 = .ok (.iconst 0, 1) := by decide +kernel
theorem dX9_init_65 : decode cX9_init 65 = .ok (.istore_n 1, 1) := by decide +kernel
theorem dX9_init_66 : decode cX9_init 66 = .ok (.iload_n 1, 1) := by decide +kernel
theorem dX9_init_67 : decode cX9_init 67 = .ok (.iconst 3, 1) := by decide +kernel
theorem dX9_init_68 : decode cX9_init 68 = .ok (.if_icmp .ge 22, 3) := by decide +kernel
theorem dX9_init_71 : decode cX9_init 71 = .ok (.aload_n 0, 1) := by decide +kernel
theorem dX9_init_72 : decode cX9_init 72 = .ok (.getfield 35, 3) := by decide +kernel
theorem dX9_init_75 : decode cX9_init 75 = .ok (.iload_n 1, 1) := by decide +kernel
theorem dX9_init_76 : decode cX9_init 76 = .ok (.new 16, 3) := by decide +kernel
theorem dX9_init_79 : decode cX9_init 79 = .ok (.dup, 1) := by decide +kernel
theorem dX9_init_80 : decode cX9_init 80 = .ok (.invokespecial 18, 3) := by decide +kernel

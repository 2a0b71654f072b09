theorem dX5_init_0 : decode cX5_init 0 = .ok (.aload_n 0, 1) := by decide +kernel
theorem dX5_init_1 : decode cX5_init 1 = .ok (.invokespecial 1, 3) := by decide +kernel
theorem dX5_init_4 : decode cX5_init 4 = .ok (.aload_n 0, 1) := by decide +kernel
theorem dX5_init_5 : decode cX5_init 5 = .ok (.sipush 768, 3) := by decide +kernel
theorem dX5_init_8 : decode cX5_init 8 = .ok (.newarray .long, 2) := by decide +kernel
theorem dX5_init_10 : decode cX5_init 10 = .ok (.putfield 7, 3) := by decide +kernel
theorem dX5_init_13 : decode cX5_init 13 = .ok (.aload_n 0, 1) := by decide +kernel
theorem dX5_init_14 : decode cX5_init 14 = .ok (.bipush 16, 2) := by decide +kernel
theorem dX5_init_16 : decode cX5_init 16 = .ok (.newarray .int, 2) := by decide +kernel
theorem dX5_init_18 : decode cX5_init 18 = .ok (.putfield 13, 3) := by decide +kernel
theorem dX5_init_21 : decode cX5_init 21 = .ok (.aload_n 0, 1) := by decide +kernel
theorem dX5_init_22 : decode cX5_init 22 = .ok (.bipush 16, 2) := by decide +kernel
theorem dX5_init_24 : decode cX5_init 24 = .ok (.newarray .int, 2) := by decide +kernel
theorem dX5_init_26 : decode cX5_init 26 = .ok (.putfield 17, 3) := by decide +kernel
theorem dX5_init_29 : decode cX5_init 29 = .ok (.aload_n 0, 1) := by decide +kernel
theorem dX5_init_30 : decode cX5_init 30 = .ok (.bipush 16, 2) := by decide +kernel
theorem dX5_init_32 : decode cX5_init 32 = .ok (.newarray .int, 2) := by decide +kernel
theorem dX5_init_34 : decode cX5_init 34 = .ok (.putfield 20, 3) := by decide +kernel
theorem dX5_init_37 : decode cX5_init 37 = .ok (.aload_n 0, 1) := by decide +kernel
theorem dX5_init_38 : decode cX5_init 38 = .ok (.bipush 9, 2) := by decide +kernel
theorem dX5_init_40 : decode cX5_init 40 = .ok (.newarray .int, 2) := by decide +kernel
theorem dX5_init_42 : decode cX5_init 42 = .ok (.putfield 23, 3) := by decide +kernel
theorem dX5_init_45 : decode cX5_init 45 = .ok (.aload_n 0, 1) := by decide +kernel
theorem dX5_init_46 : decode cX5_init 46 = .ok (.bipush 48, 2) := by decide +kernel
theorem dX5_init_48 : decode cX5_init 48 = .ok (.newarray .long, 2) := by decide +kernel
theorem dX5_init_50 : decode cX5_init 50 = .ok (.putfield 26, 3) := by decide +kernel
theorem dX5_init_53 : decode cX5_init 53 = .ok (.aload_n 0, 1) := by decide +kernel
theorem dX5_init_54 : decode cX5_init 54 = .ok (.bipush 48, 2) := by decide +kernel
theorem dX5_init_56 : decode cX5_init 56 = .ok (.newarray .long, 2) := by decide +kernel
theorem dX5_init_58 : decode cX5_init 58 = .ok (.putfield 29, 3) := by decide +kernel
theorem dX5_init_61 : decode cX5_init 61 = .ok (.aload_n 0, 1) := by decide +kernel
theorem dX5_init_62 : decode cX5_init 62 = .ok (.bipush 48, 2) := by decide +kernel
theorem dX5_init_64 : decode cX5_init 64 = .ok (.newarray .long, 2) := by decide +kernel
theorem dX5_init_66 : decode cX5_init 66 = .ok (.putfield 32, 3) := by decide +kernel
theorem dX5_init_69 : decode cX5_init 69 = .ok (.aload_n 0, 1) := by decide +kernel
theorem dX5_init_70 : decode cX5_init 70 = .ok (.bipush 48, 2) := by decide +kernel
theorem dX5_init_72 : decode cX5_init 72 = .ok (.newarray .long, 2) := by decide +kernel
theorem dX5_init_74 : decode cX5_init 74 = .ok (.putfield 35, 3) := by decide +kernel
theorem dX5_init_77 : decode cX5_init 77 = .ok (.aload_n 0, 1) := by decide +kernel
theorem dX5_init_78 : decode cX5_init 78 = .ok (.bipush 48, 2) := by decide +kernel
theorem dX5_init_80 : decode cX5_init 80 = .ok (.newarray .long, 2) := by decide +kernel
theorem dX5_init_82 : decode cX5_init 82 = .ok (.putfield 38, 3) := by decide +kernel
theorem dX5_init_85 : decode cX5_init 85 = .ok (.aload_n 0, 1) := by decide +kernel
theorem dX5_init_86 : decode cX5_init 86 = .ok (.bipush 48, 2) := by decide +kernel
theorem dX5_init_88 : decode cX5_init 88 = .ok (.newarray .long, 2) := by decide +kernel
theorem dX5_init_90 : decode cX5_init 90 = .ok (.putfield 41, 3) := by decide +kernel
theorem dX5_init_93 : decode cX5_init 93 = .ok (.aload_n 0, 1) := by decide +kernel
theorem dX5_init_94 : decode cX5_init 94 = .ok (.bipush 48, 2) := by decide +kernel
theorem dX5_init_96 : decode cX5_init 96 = .ok (.newarray .long, 2) := by decide +kernel
theorem dX5_init_98 : decode cX5_init 98 = .ok (.putfield 44, 3) := by decide +kernel
theorem dX5_init_101 : decode cX5_init 101 = .ok (.aload_n 0, 1) := by decide +kernel
theorem dX5_init_102 : decode cX5_init 102 = .ok (.iconst 4, 1) := by decide +kernel
theorem dX5_init_103 : decode cX5_init 103 = .ok (.newarray .long, 2) := by decide +kernel
theorem dX5_init_105 : decode cX5_init 105 = .ok (.putfield 47, 3) := by decide +kernel
theorem dX5_init_108 : decode cX5_init 108 = .ok (.aload_n 0, 1) := by decide +kernel
theorem dX5_init_109 : decode cX5_init 109 = .ok (.bipush 48, 2) := by decide +kernel
theorem dX5_init_111 : decode cX5_init 111 = .ok (.newarray .long, 2) := by decide +kernel
theorem dX5_init_113 : decode cX5_init 113 = .ok (.putfield 50, 3) := by decide +kernel
theorem dX5_init_116 : decode cX5_init 116 = .ok (.aload_n 0, 1) := by decide +kernel
theorem dX5_init_117 : decode cX5_init 117 = .ok (.bipush 100, 2) := by decide +kernel
theorem dX5_init_119 : decode cX5_init 119 = .ok (.newarray .long, 2) := by decide +kernel
theorem dX5_init_121 : decode cX5_init 121 = .ok (.putfield 53, 3) := by decide +kernel
theorem dX5_init_124 : decode cX5_init 124 = .ok (.aload_n 0, 1) := by decide +kernel
theorem dX5_init_125 : decode cX5_init 125 = .ok (.bipush 100, 2) := by decide +kernel
theorem dX5_init_127 : decode cX5_init 127 = .ok (.newarray .long, 2) := by decide +kernel
theorem dX5_init_129 : decode cX5_init 129 = .ok (.putfield 56, 3) := by decide +kernel
theorem dX5_init_132 : decode cX5_init 132 = .ok (.aload_n 0, 1) := by decide +kernel
theorem dX5_init_133 : decode cX5_init 133 = .ok (.bipush 48, 2) := by decide +kernel
theorem dX5_init_135 : decode cX5_init 135 = .ok (.newarray .int, 2) := by decide +kernel
theorem dX5_init_137 : decode cX5_init 137 = .ok (.putfield 59, 3) := by decide +kernel
theorem dX5_init_140 : decode cX5_init 140 = .ok (.aload_n 0, 1) := by decide +kernel
theorem dX5_init_141 : decode cX5_init 141 = .ok (.bipush 48, 2) := by decide +kernel
theorem dX5_init_143 : decode cX5_init 143 = .ok (.newarray .int, 2) := by decide +kernel
theorem dX5_init_145 : decode cX5_init 145 = .ok (.putfield 62, 3) := by decide +kernel
theorem dX5_init_148 : decode cX5_init 148 = .ok (.aload_n 0, 1) := by decide +kernel
theorem dX5_init_149 : decode cX5_init 149 = .ok (.iconst (-1), 1) := by decide +kernel
theorem dX5_init_150 : decode cX5_init 150 = .ok (.putfield 65, 3) := by decide +kernel
theorem dX5_init_153 : decode cX5_init 153 = .ok (.aload_n 0, 1) := by decide +kernel
theorem dX5_init_154 : decode cX5_init 154 = .ok (.getfield 26, 3) := by decide +kernel
theorem dX5_init_157 : decode cX5_init 157 = .ok (.iconst 2, 1) := by decide +kernel
theorem dX5_init_158 : decode cX5_init 158 = .ok (.ldc2_w 69, 3) := by decide +kernel
theorem dX5_init_161 : decode cX5_init 161 = .ok (.invokestatic 71, 3) := by decide +kernel
theorem dX5_init_164 : decode cX5_init 164 = .ok (.aload_n 0, 1) := by decide +kernel
theorem dX5_init_165 : decode cX5_init 165 = .ok (.getfield 29, 3) := by decide +kernel
theorem dX5_init_168 : decode cX5_init 168 = .ok (.iconst 4, 1) := by decide +kernel
theorem dX5_init_169 : decode cX5_init 169 = .ok (.ldc2_w 75, 3) := by decide +kernel
theorem dX5_init_172 : decode cX5_init 172 = .ok (.invokestatic 71, 3) := by decide +kernel
theorem dX5_init_175 : decode cX5_init 175 = .ok (.aload_n 0, 1) := by decide +kernel
theorem dX5_init_176 : decode cX5_init 176 = .ok (.getfield 32, 3) := by decide +kernel
theorem dX5_init_179 : decode cX5_init 179 = .ok (.bipush 6, 2) := by decide +kernel
theorem dX5_init_181 : decode cX5_init 181 = .ok (.ldc2_w 77, 3) := by decide +kernel
theorem dX5_init_184 : decode cX5_init 184 = .ok (.invokestatic 71, 3) := by decide +kernel
theorem dX5_init_187 : decode cX5_init 187 = .ok (.iconst 0, 1) := by decide +kernel
theorem dX5_init_188 : decode cX5_init 188 = .ok (.istore_n 1, 1) := by decide +kernel
theorem dX5_init_189 : decode cX5_init 189 = .ok (.iload_n 1, 1) := by decide +kernel
theorem dX5_init_190 : decode cX5_init 190 = .ok (.bipush 48, 2) := by decide +kernel
theorem dX5_init_192 : decode cX5_init 192 = .ok (.if_icmp .ge 25, 3) := by decide +kernel
theorem dX5_init_195 : decode cX5_init 195 = .ok (.aload_n 0, 1) := by decide +kernel
theorem dX5_init_196 : decode cX5_init 196 = .ok (.getfield 35, 3) := by decide +kernel
theorem dX5_init_199 : decode cX5_init 199 = .ok (.iload_n 1, 1) := by decide +kernel
theorem dX5_init_200 : decode cX5_init 200 = .ok (.iload_n 1, 1) := by decide +kernel
theorem dX5_init_201 : decode cX5_init 201 = .ok (.iconst 1, 1) := by decide +kernel
theorem dX5_init_202 : decode cX5_init 202 = .ok (.if_icmp .ne 7, 3) := by decide +kernel
theorem dX5_init_205 : decode cX5_init 205 = .ok (.lconst 1, 1) := by decide +kernel
theorem dX5_init_206 : decode cX5_init 206 = .ok (.goto 4, 3) := by decide +kernel
theorem dX5_init_209 : decode cX5_init 209 = .ok (.lconst 0, 1) := by decide +kernel
theorem dX5_init_210 : decode cX5_init 210 = .ok (.lastore, 1) := by decide +kernel
theorem dX5_init_211 : decode cX5_init 211 = .ok (.iinc 1 1, 3) := by decide +kernel
theorem dX5_init_214 : decode cX5_init 214 = .ok (.goto (-25), 3) := by decide +kernel
theorem dX5_init_217 : decode cX5_init 217 = .ok (.iconst 1, 1) := by decide +kernel
theorem dX5_init_218 : decode cX5_init 218 = .ok (.istore_n 1, 1) := by decide +kernel
theorem dX5_init_219 : decode cX5_init 219 = .ok (.iload_n 1, 1) := by decide +kernel
theorem dX5_init_220 : decode cX5_init 220 = .ok (.bipush 48, 2) := by decide +kernel
theorem dX5_init_222 : decode cX5_init 222 = .ok (.if_icmp .ge 66, 3) := by decide +kernel
theorem dX5_init_225 : decode cX5_init 225 = .ok (.iconst 0, 1) := by decide +kernel
theorem dX5_init_226 : decode cX5_init 226 = .ok (.istore_n 2, 1) := by decide +kernel
theorem dX5_init_227 : decode cX5_init 227 = .ok (.iload_n 2, 1) := by decide +kernel
theorem dX5_init_228 : decode cX5_init 228 = .ok (.bipush 24, 2) := by decide +kernel
theorem dX5_init_230 : decode cX5_init 230 = .ok (.if_icmp .ge 52, 3) := by decide +kernel
theorem dX5_init_233 : decode cX5_init 233 = .ok (.bipush 47, 2) := by decide +kernel
theorem dX5_init_235 : decode cX5_init 235 = .ok (.istore_n 3, 1) := by decide +kernel
theorem dX5_init_236 : decode cX5_init 236 = .ok (.iload_n 3, 1) := by decide +kernel
theorem dX5_init_237 : decode cX5_init 237 = .ok (.iload_n 1, 1) := by decide +kernel
theorem dX5_init_238 : decode cX5_init 238 = .ok (.if_icmp .lt 38, 3) := by decide +kernel
theorem dX5_init_241 : decode cX5_init 241 = .ok (.aload_n 0, 1) := by decide +kernel
theorem dX5_init_242 : decode cX5_init 242 = .ok (.getfield 35, 3) := by decide +kernel
theorem dX5_init_245 : decode cX5_init 245 = .ok (.iload_n 3, 1) := by decide +kernel
theorem dX5_init_246 : decode cX5_init 246 = .ok (.aload_n 0, 1) := by decide +kernel
theorem dX5_init_247 : decode cX5_init 247 = .ok (.getfield 35, 3) := by decide +kernel
theorem dX5_init_250 : decode cX5_init 250 = .ok (.iload_n 3, 1) := by decide +kernel
theorem dX5_init_251 : decode cX5_init 251 = .ok (.laload, 1) := by decide +kernel
theorem dX5_init_252 : decode cX5_init 252 = .ok (.ldc2_w 79, 3) := by decide +kernel
theorem dX5_init_255 : decode cX5_init 255 = .ok (.ladd, 1) := by decide +kernel
theorem dX5_init_256 : decode cX5_init 256 = .ok (.aload_n 0, 1) := by decide +kernel
theorem dX5_init_257 : decode cX5_init 257 = .ok (.getfield 35, 3) := by decide +kernel
theorem dX5_init_260 : decode cX5_init 260 = .ok (.iload_n 3, 1) := by decide +kernel
theorem dX5_init_261 : decode cX5_init 261 = .ok (.iload_n 1, 1) := by decide +kernel
theorem dX5_init_262 : decode cX5_init 262 = .ok (.isub, 1) := by decide +kernel
theorem dX5_init_263 : decode cX5_init 263 = .ok (.laload, 1) := by decide +kernel
theorem dX5_init_264 : decode cX5_init 264 = .ok (.lsub, 1) := by decide +kernel
theorem dX5_init_265 : decode cX5_init 265 = .ok (.ldc2_w 79, 3) := by decide +kernel
theorem dX5_init_268 : decode cX5_init 268 = .ok (.lrem, 1) := by decide +kernel
theorem dX5_init_269 : decode cX5_init 269 = .ok (.lastore, 1) := by decide +kernel
theorem dX5_init_270 : decode cX5_init 270 = .ok (.iinc 3 (-1), 3) := by decide +kernel
theorem dX5_init_273 : decode cX5_init 273 = .ok (.goto (-37), 3) := by decide +kernel
theorem dX5_init_276 : decode cX5_init 276 = .ok (.iinc 2 1, 3) := by decide +kernel
theorem dX5_init_279 : decode cX5_init 279 = .ok (.goto (-52), 3) := by decide +kernel
theorem dX5_init_282 : decode cX5_init 282 = .ok (.iinc 1 1, 3) := by decide +kernel
theorem dX5_init_285 : decode cX5_init 285 = .ok (.goto (-66), 3) := by decide +kernel
theorem dX5_init_288 : decode cX5_init 288 = .ok (.return_, 1) := by decide +kernel
theorem dX5_raised_0 : decode cX5_raised 0 = .ok (.lconst 1, 1) := by decide +kernel
theorem dX5_raised_1 : decode cX5_raised 1 = .ok (.lstore_n 3, 1) := by decide +kernel
theorem dX5_raised_2 : decode cX5_raised 2 = .ok (.iconst 0, 1) := by decide +kernel
theorem dX5_raised_3 : decode cX5_raised 3 = .ok (.istore 5, 2) := by decide +kernel
theorem dX5_raised_5 : decode cX5_raised 5 = .ok (.iload 5, 2) := by decide +kernel
theorem dX5_raised_7 : decode cX5_raised 7 = .ok (.iload_n 2, 1) := by decide +kernel
theorem dX5_raised_8 : decode cX5_raised 8 = .ok (.if_icmp .ge 17, 3) := by decide +kernel
theorem dX5_raised_11 : decode cX5_raised 11 = .ok (.lload_n 3, 1) := by decide +kernel
theorem dX5_raised_12 : decode cX5_raised 12 = .ok (.lload_n 0, 1) := by decide +kernel
theorem dX5_raised_13 : decode cX5_raised 13 = .ok (.lmul, 1) := by decide +kernel
theorem dX5_raised_14 : decode cX5_raised 14 = .ok (.ldc2_w 79, 3) := by decide +kernel
theorem dX5_raised_17 : decode cX5_raised 17 = .ok (.lrem, 1) := by decide +kernel
theorem dX5_raised_18 : decode cX5_raised 18 = .ok (.lstore_n 3, 1) := by decide +kernel
theorem dX5_raised_19 : decode cX5_raised 19 = .ok (.iinc 5 1, 3) := by decide +kernel
theorem dX5_raised_22 : decode cX5_raised 22 = .ok (.goto (-17), 3) := by decide +kernel
theorem dX5_raised_25 : decode cX5_raised 25 = .ok (.lload_n 3, 1) := by decide +kernel
theorem dX5_raised_26 : decode cX5_raised 26 = .ok (.lreturn, 1) := by decide +kernel
theorem dX5_inverse_0 : decode cX5_inverse 0 = .ok (.lconst 1, 1) := by decide +kernel
theorem dX5_inverse_1 : decode cX5_inverse 1 = .ok (.lstore_n 2, 1) := by decide +kernel
theorem dX5_inverse_2 : decode cX5_inverse 2 = .ok (.lload_n 0, 1) := by decide +kernel
theorem dX5_inverse_3 : decode cX5_inverse 3 = .ok (.ldc2_w 79, 3) := by decide +kernel
theorem dX5_inverse_6 : decode cX5_inverse 6 = .ok (.lrem, 1) := by decide +kernel
theorem dX5_inverse_7 : decode cX5_inverse 7 = .ok (.lstore 4, 2) := by decide +kernel
theorem dX5_inverse_9 : decode cX5_inverse 9 = .ok (.ldc2_w 81, 3) := by decide +kernel
theorem dX5_inverse_12 : decode cX5_inverse 12 = .ok (.lstore 6, 2) := by decide +kernel
theorem dX5_inverse_14 : decode cX5_inverse 14 = .ok (.lload 6, 2) := by decide +kernel
theorem dX5_inverse_16 : decode cX5_inverse 16 = .ok (.lconst 0, 1) := by decide +kernel
theorem dX5_inverse_17 : decode cX5_inverse 17 = .ok (.lcmp, 1) := by decide +kernel
theorem dX5_inverse_18 : decode cX5_inverse 18 = .ok (.ifCond .le 45, 3) := by decide +kernel
theorem dX5_inverse_21 : decode cX5_inverse 21 = .ok (.lload 6, 2) := by decide +kernel
theorem dX5_inverse_23 : decode cX5_inverse 23 = .ok (.ldc2_w 83, 3) := by decide +kernel
theorem dX5_inverse_26 : decode cX5_inverse 26 = .ok (.lrem, 1) := by decide +kernel
theorem dX5_inverse_27 : decode cX5_inverse 27 = .ok (.lconst 1, 1) := by decide +kernel
theorem dX5_inverse_28 : decode cX5_inverse 28 = .ok (.lcmp, 1) := by decide +kernel
theorem dX5_inverse_29 : decode cX5_inverse 29 = .ok (.ifCond .ne 12, 3) := by decide +kernel
theorem dX5_inverse_32 : decode cX5_inverse 32 = .ok (.lload_n 2, 1) := by decide +kernel
theorem dX5_inverse_33 : decode cX5_inverse 33 = .ok (.lload 4, 2) := by decide +kernel
theorem dX5_inverse_35 : decode cX5_inverse 35 = .ok (.lmul, 1) := by decide +kernel
theorem dX5_inverse_36 : decode cX5_inverse 36 = .ok (.ldc2_w 79, 3) := by decide +kernel
theorem dX5_inverse_39 : decode cX5_inverse 39 = .ok (.lrem, 1) := by decide +kernel
theorem dX5_inverse_40 : decode cX5_inverse 40 = .ok (.lstore_n 2, 1) := by decide +kernel
theorem dX5_inverse_41 : decode cX5_inverse 41 = .ok (.lload 4, 2) := by decide +kernel
theorem dX5_inverse_43 : decode cX5_inverse 43 = .ok (.lload 4, 2) := by decide +kernel
theorem dX5_inverse_45 : decode cX5_inverse 45 = .ok (.lmul, 1) := by decide +kernel
theorem dX5_inverse_46 : decode cX5_inverse 46 = .ok (.ldc2_w 79, 3) := by decide +kernel
theorem dX5_inverse_49 : decode cX5_inverse 49 = .ok (.lrem, 1) := by decide +kernel
theorem dX5_inverse_50 : decode cX5_inverse 50 = .ok (.lstore 4, 2) := by decide +kernel
theorem dX5_inverse_52 : decode cX5_inverse 52 = .ok (.lload 6, 2) := by decide +kernel
theorem dX5_inverse_54 : decode cX5_inverse 54 = .ok (.ldc2_w 83, 3) := by decide +kernel
theorem dX5_inverse_57 : decode cX5_inverse 57 = .ok (.ldiv, 1) := by decide +kernel
theorem dX5_inverse_58 : decode cX5_inverse 58 = .ok (.lstore 6, 2) := by decide +kernel
theorem dX5_inverse_60 : decode cX5_inverse 60 = .ok (.goto (-46), 3) := by decide +kernel
theorem dX5_inverse_63 : decode cX5_inverse 63 = .ok (.lload_n 2, 1) := by decide +kernel
theorem dX5_inverse_64 : decode cX5_inverse 64 = .ok (.lreturn, 1) := by decide +kernel
theorem dX5_fillSums_0 : decode cX5_fillSums 0 = .ok (.aload_n 0, 1) := by decide +kernel
theorem dX5_fillSums_1 : decode cX5_fillSums 1 = .ok (.iconst 0, 1) := by decide +kernel
theorem dX5_fillSums_2 : decode cX5_fillSums 2 = .ok (.lconst 1, 1) := by decide +kernel
theorem dX5_fillSums_3 : decode cX5_fillSums 3 = .ok (.lastore, 1) := by decide +kernel
theorem dX5_fillSums_4 : decode cX5_fillSums 4 = .ok (.iconst 1, 1) := by decide +kernel
theorem dX5_fillSums_5 : decode cX5_fillSums 5 = .ok (.istore 4, 2) := by decide +kernel
theorem dX5_fillSums_7 : decode cX5_fillSums 7 = .ok (.iload 4, 2) := by decide +kernel
theorem dX5_fillSums_9 : decode cX5_fillSums 9 = .ok (.bipush 48, 2) := by decide +kernel
theorem dX5_fillSums_11 : decode cX5_fillSums 11 = .ok (.if_icmp .ge 70, 3) := by decide +kernel
theorem dX5_fillSums_14 : decode cX5_fillSums 14 = .ok (.lconst 0, 1) := by decide +kernel
theorem dX5_fillSums_15 : decode cX5_fillSums 15 = .ok (.lstore 5, 2) := by decide +kernel
theorem dX5_fillSums_17 : decode cX5_fillSums 17 = .ok (.iconst 1, 1) := by decide +kernel
theorem dX5_fillSums_18 : decode cX5_fillSums 18 = .ok (.istore 7, 2) := by decide +kernel
theorem dX5_fillSums_20 : decode cX5_fillSums 20 = .ok (.iload 7, 2) := by decide +kernel
theorem dX5_fillSums_22 : decode cX5_fillSums 22 = .ok (.iload 4, 2) := by decide +kernel
theorem dX5_fillSums_24 : decode cX5_fillSums 24 = .ok (.if_icmp .gt 35, 3) := by decide +kernel
theorem dX5_fillSums_27 : decode cX5_fillSums 27 = .ok (.lload 5, 2) := by decide +kernel
theorem dX5_fillSums_29 : decode cX5_fillSums 29 = .ok (.iload 4, 2) := by decide +kernel
theorem dX5_fillSums_31 : decode cX5_fillSums 31 = .ok (.iload 7, 2) := by decide +kernel
theorem dX5_fillSums_33 : decode cX5_fillSums 33 = .ok (.irem, 1) := by decide +kernel
theorem dX5_fillSums_34 : decode cX5_fillSums 34 = .ok (.ifCond .ne 15, 3) := by decide +kernel
theorem dX5_fillSums_37 : decode cX5_fillSums 37 = .ok (.iload 7, 2) := by decide +kernel
theorem dX5_fillSums_39 : decode cX5_fillSums 39 = .ok (.i2l, 1) := by decide +kernel
theorem dX5_fillSums_40 : decode cX5_fillSums 40 = .ok (.iload_n 1, 1) := by decide +kernel
theorem dX5_fillSums_41 : decode cX5_fillSums 41 = .ok (.iconst 1, 1) := by decide +kernel
theorem dX5_fillSums_42 : decode cX5_fillSums 42 = .ok (.isub, 1) := by decide +kernel
theorem dX5_fillSums_43 : decode cX5_fillSums 43 = .ok (.invokestatic 85, 3) := by decide +kernel
theorem dX5_fillSums_46 : decode cX5_fillSums 46 = .ok (.goto 4, 3) := by decide +kernel
theorem dX5_fillSums_49 : decode cX5_fillSums 49 = .ok (.lconst 0, 1) := by decide +kernel
theorem dX5_fillSums_50 : decode cX5_fillSums 50 = .ok (.ladd, 1) := by decide +kernel
theorem dX5_fillSums_51 : decode cX5_fillSums 51 = .ok (.lstore 5, 2) := by decide +kernel
theorem dX5_fillSums_53 : decode cX5_fillSums 53 = .ok (.iinc 7 1, 3) := by decide +kernel
theorem dX5_fillSums_56 : decode cX5_fillSums 56 = .ok (.goto (-36), 3) := by decide +kernel
theorem dX5_fillSums_59 : decode cX5_fillSums 59 = .ok (.aload_n 0, 1) := by decide +kernel
theorem dX5_fillSums_60 : decode cX5_fillSums 60 = .ok (.iload 4, 2) := by decide +kernel
theorem dX5_fillSums_62 : decode cX5_fillSums 62 = .ok (.lload 5, 2) := by decide +kernel
theorem dX5_fillSums_64 : decode cX5_fillSums 64 = .ok (.ldc2_w 79, 3) := by decide +kernel
theorem dX5_fillSums_67 : decode cX5_fillSums 67 = .ok (.lrem, 1) := by decide +kernel
theorem dX5_fillSums_68 : decode cX5_fillSums 68 = .ok (.lload_n 2, 1) := by decide +kernel
theorem dX5_fillSums_69 : decode cX5_fillSums 69 = .ok (.lmul, 1) := by decide +kernel
theorem dX5_fillSums_70 : decode cX5_fillSums 70 = .ok (.ldc2_w 79, 3) := by decide +kernel
theorem dX5_fillSums_73 : decode cX5_fillSums 73 = .ok (.lrem, 1) := by decide +kernel
theorem dX5_fillSums_74 : decode cX5_fillSums 74 = .ok (.lastore, 1) := by decide +kernel
theorem dX5_fillSums_75 : decode cX5_fillSums 75 = .ok (.iinc 4 1, 3) := by decide +kernel
theorem dX5_fillSums_78 : decode cX5_fillSums 78 = .ok (.goto (-71), 3) := by decide +kernel
theorem dX5_fillSums_81 : decode cX5_fillSums 81 = .ok (.return_, 1) := by decide +kernel
theorem dX5_isIn_0 : decode cX5_isIn 0 = .ok (.lload_n 0, 1) := by decide +kernel
theorem dX5_isIn_1 : decode cX5_isIn 1 = .ok (.lload_n 2, 1) := by decide +kernel
theorem dX5_isIn_2 : decode cX5_isIn 2 = .ok (.lcmp, 1) := by decide +kernel
theorem dX5_isIn_3 : decode cX5_isIn 3 = .ok (.ifCond .lt 14, 3) := by decide +kernel
theorem dX5_isIn_6 : decode cX5_isIn 6 = .ok (.lload_n 0, 1) := by decide +kernel
theorem dX5_isIn_7 : decode cX5_isIn 7 = .ok (.lload 4, 2) := by decide +kernel
theorem dX5_isIn_9 : decode cX5_isIn 9 = .ok (.lcmp, 1) := by decide +kernel
theorem dX5_isIn_10 : decode cX5_isIn 10 = .ok (.ifCond .gt 7, 3) := by decide +kernel
theorem dX5_isIn_13 : decode cX5_isIn 13 = .ok (.iconst 1, 1) := by decide +kernel
theorem dX5_isIn_14 : decode cX5_isIn 14 = .ok (.goto 4, 3) := by decide +kernel
theorem dX5_isIn_17 : decode cX5_isIn 17 = .ok (.iconst 0, 1) := by decide +kernel
theorem dX5_isIn_18 : decode cX5_isIn 18 = .ok (.ireturn, 1) := by decide +kernel
theorem dX5_no_0 : decode cX5_no 0 = .ok (.aload_n 0, 1) := by decide +kernel
theorem dX5_no_1 : decode cX5_no 1 = .ok (.getfield 23, 3) := by decide +kernel
theorem dX5_no_4 : decode cX5_no 4 = .ok (.iload_n 1, 1) := by decide +kernel
theorem dX5_no_5 : decode cX5_no 5 = .ok (.ineg, 1) := by decide +kernel
theorem dX5_no_6 : decode cX5_no 6 = .ok (.dup2, 1) := by decide +kernel
theorem dX5_no_7 : decode cX5_no 7 = .ok (.iaload, 1) := by decide +kernel
theorem dX5_no_8 : decode cX5_no 8 = .ok (.iconst 1, 1) := by decide +kernel
theorem dX5_no_9 : decode cX5_no 9 = .ok (.iadd, 1) := by decide +kernel
theorem dX5_no_10 : decode cX5_no 10 = .ok (.iastore, 1) := by decide +kernel
theorem dX5_no_11 : decode cX5_no 11 = .ok (.iload_n 1, 1) := by decide +kernel
theorem dX5_no_12 : decode cX5_no 12 = .ok (.ireturn, 1) := by decide +kernel
theorem dX5_isForm_0 : decode cX5_isForm 0 = .ok (.iload_n 1, 1) := by decide +kernel
theorem dX5_isForm_1 : decode cX5_isForm 1 = .ok (.ifCond .lt 15, 3) := by decide +kernel
theorem dX5_isForm_4 : decode cX5_isForm 4 = .ok (.iload_n 1, 1) := by decide +kernel
theorem dX5_isForm_5 : decode cX5_isForm 5 = .ok (.aload_n 0, 1) := by decide +kernel
theorem dX5_isForm_6 : decode cX5_isForm 6 = .ok (.getfield 89, 3) := by decide +kernel
theorem dX5_isForm_9 : decode cX5_isForm 9 = .ok (.if_icmp .ge 7, 3) := by decide +kernel
theorem dX5_isForm_12 : decode cX5_isForm 12 = .ok (.iconst 1, 1) := by decide +kernel
theorem dX5_isForm_13 : decode cX5_isForm 13 = .ok (.goto 4, 3) := by decide +kernel
theorem dX5_isForm_16 : decode cX5_isForm 16 = .ok (.iconst 0, 1) := by decide +kernel
theorem dX5_isForm_17 : decode cX5_isForm 17 = .ok (.ireturn, 1) := by decide +kernel
theorem dX5_takes_0 : decode cX5_takes 0 = .ok (.iconst 0, 1) := by decide +kernel
theorem dX5_takes_1 : decode cX5_takes 1 = .ok (.istore_n 3, 1) := by decide +kernel
theorem dX5_takes_2 : decode cX5_takes 2 = .ok (.iload_n 3, 1) := by decide +kernel
theorem dX5_takes_3 : decode cX5_takes 3 = .ok (.bipush 48, 2) := by decide +kernel
theorem dX5_takes_5 : decode cX5_takes 5 = .ok (.if_icmp .ge 23, 3) := by decide +kernel
theorem dX5_takes_8 : decode cX5_takes 8 = .ok (.aload_n 1, 1) := by decide +kernel
theorem dX5_takes_9 : decode cX5_takes 9 = .ok (.iload_n 3, 1) := by decide +kernel
theorem dX5_takes_10 : decode cX5_takes 10 = .ok (.aload_n 0, 1) := by decide +kernel
theorem dX5_takes_11 : decode cX5_takes 11 = .ok (.getfield 7, 3) := by decide +kernel
theorem dX5_takes_14 : decode cX5_takes 14 = .ok (.bipush 48, 2) := by decide +kernel
theorem dX5_takes_16 : decode cX5_takes 16 = .ok (.iload_n 2, 1) := by decide +kernel
theorem dX5_takes_17 : decode cX5_takes 17 = .ok (.imul, 1) := by decide +kernel
theorem dX5_takes_18 : decode cX5_takes 18 = .ok (.iload_n 3, 1) := by decide +kernel
theorem dX5_takes_19 : decode cX5_takes 19 = .ok (.iadd, 1) := by decide +kernel
theorem dX5_takes_20 : decode cX5_takes 20 = .ok (.laload, 1) := by decide +kernel
theorem dX5_takes_21 : decode cX5_takes 21 = .ok (.lastore, 1) := by decide +kernel
theorem dX5_takes_22 : decode cX5_takes 22 = .ok (.iinc 3 1, 3) := by decide +kernel
theorem dX5_takes_25 : decode cX5_takes 25 = .ok (.goto (-23), 3) := by decide +kernel
theorem dX5_takes_28 : decode cX5_takes 28 = .ok (.return_, 1) := by decide +kernel
theorem dX5_multiplies_0 : decode cX5_multiplies 0 = .ok (.bipush 47, 2) := by decide +kernel
theorem dX5_multiplies_2 : decode cX5_multiplies 2 = .ok (.istore_n 3, 1) := by decide +kernel
theorem dX5_multiplies_3 : decode cX5_multiplies 3 = .ok (.iload_n 3, 1) := by decide +kernel
theorem dX5_multiplies_4 : decode cX5_multiplies 4 = .ok (.ifCond .lt 52, 3) := by decide +kernel
theorem dX5_multiplies_7 : decode cX5_multiplies 7 = .ok (.lconst 0, 1) := by decide +kernel
theorem dX5_multiplies_8 : decode cX5_multiplies 8 = .ok (.lstore 4, 2) := by decide +kernel
theorem dX5_multiplies_10 : decode cX5_multiplies 10 = .ok (.iconst 0, 1) := by decide +kernel
theorem dX5_multiplies_11 : decode cX5_multiplies 11 = .ok (.istore 6, 2) := by decide +kernel
theorem dX5_multiplies_13 : decode cX5_multiplies 13 = .ok (.iload 6, 2) := by decide +kernel
theorem dX5_multiplies_15 : decode cX5_multiplies 15 = .ok (.iload_n 3, 1) := by decide +kernel
theorem dX5_multiplies_16 : decode cX5_multiplies 16 = .ok (.if_icmp .gt 29, 3) := by decide +kernel
theorem dX5_multiplies_19 : decode cX5_multiplies 19 = .ok (.lload 4, 2) := by decide +kernel
theorem dX5_multiplies_21 : decode cX5_multiplies 21 = .ok (.aload_n 1, 1) := by decide +kernel
theorem dX5_multiplies_22 : decode cX5_multiplies 22 = .ok (.iload 6, 2) := by decide +kernel
theorem dX5_multiplies_24 : decode cX5_multiplies 24 = .ok (.laload, 1) := by decide +kernel
theorem dX5_multiplies_25 : decode cX5_multiplies 25 = .ok (.aload_n 2, 1) := by decide +kernel
theorem dX5_multiplies_26 : decode cX5_multiplies 26 = .ok (.iload_n 3, 1) := by decide +kernel
theorem dX5_multiplies_27 : decode cX5_multiplies 27 = .ok (.iload 6, 2) := by decide +kernel
theorem dX5_multiplies_29 : decode cX5_multiplies 29 = .ok (.isub, 1) := by decide +kernel
theorem dX5_multiplies_30 : decode cX5_multiplies 30 = .ok (.laload, 1) := by decide +kernel
theorem dX5_multiplies_31 : decode cX5_multiplies 31 = .ok (.lmul, 1) := by decide +kernel
theorem dX5_multiplies_32 : decode cX5_multiplies 32 = .ok (.ladd, 1) := by decide +kernel
theorem dX5_multiplies_33 : decode cX5_multiplies 33 = .ok (.ldc2_w 79, 3) := by decide +kernel
theorem dX5_multiplies_36 : decode cX5_multiplies 36 = .ok (.lrem, 1) := by decide +kernel
theorem dX5_multiplies_37 : decode cX5_multiplies 37 = .ok (.lstore 4, 2) := by decide +kernel
theorem dX5_multiplies_39 : decode cX5_multiplies 39 = .ok (.iinc 6 1, 3) := by decide +kernel
theorem dX5_multiplies_42 : decode cX5_multiplies 42 = .ok (.goto (-29), 3) := by decide +kernel
theorem dX5_multiplies_45 : decode cX5_multiplies 45 = .ok (.aload_n 1, 1) := by decide +kernel
theorem dX5_multiplies_46 : decode cX5_multiplies 46 = .ok (.iload_n 3, 1) := by decide +kernel
theorem dX5_multiplies_47 : decode cX5_multiplies 47 = .ok (.lload 4, 2) := by decide +kernel
theorem dX5_multiplies_49 : decode cX5_multiplies 49 = .ok (.lastore, 1) := by decide +kernel
theorem dX5_multiplies_50 : decode cX5_multiplies 50 = .ok (.iinc 3 (-1), 3) := by decide +kernel
theorem dX5_multiplies_53 : decode cX5_multiplies 53 = .ok (.goto (-50), 3) := by decide +kernel
theorem dX5_multiplies_56 : decode cX5_multiplies 56 = .ok (.return_, 1) := by decide +kernel
theorem dX5_isRest_0 : decode cX5_isRest 0 = .ok (.iload_n 0, 1) := by decide +kernel
theorem dX5_isRest_1 : decode cX5_isRest 1 = .ok (.ifCond .lt 12, 3) := by decide +kernel
theorem dX5_isRest_4 : decode cX5_isRest 4 = .ok (.iload_n 0, 1) := by decide +kernel
theorem dX5_isRest_5 : decode cX5_isRest 5 = .ok (.iconst 2, 1) := by decide +kernel
theorem dX5_isRest_6 : decode cX5_isRest 6 = .ok (.if_icmp .eq 7, 3) := by decide +kernel
theorem dX5_isRest_9 : decode cX5_isRest 9 = .ok (.iconst 1, 1) := by decide +kernel
theorem dX5_isRest_10 : decode cX5_isRest 10 = .ok (.goto 4, 3) := by decide +kernel
theorem dX5_isRest_13 : decode cX5_isRest 13 = .ok (.iconst 0, 1) := by decide +kernel
theorem dX5_isRest_14 : decode cX5_isRest 14 = .ok (.ireturn, 1) := by decide +kernel
theorem dX5_sizeOf_0 : decode cX5_sizeOf 0 = .ok (.iconst 0, 1) := by decide +kernel
theorem dX5_sizeOf_1 : decode cX5_sizeOf 1 = .ok (.istore_n 1, 1) := by decide +kernel
theorem dX5_sizeOf_2 : decode cX5_sizeOf 2 = .ok (.iload_n 0, 1) := by decide +kernel
theorem dX5_sizeOf_3 : decode cX5_sizeOf 3 = .ok (.bipush 12, 2) := by decide +kernel
theorem dX5_sizeOf_5 : decode cX5_sizeOf 5 = .ok (.iload_n 1, 1) := by decide +kernel
theorem dX5_sizeOf_6 : decode cX5_sizeOf 6 = .ok (.imul, 1) := by decide +kernel
theorem dX5_sizeOf_7 : decode cX5_sizeOf 7 = .ok (.isub, 1) := by decide +kernel
theorem dX5_sizeOf_8 : decode cX5_sizeOf 8 = .ok (.invokestatic 92, 3) := by decide +kernel
theorem dX5_sizeOf_11 : decode cX5_sizeOf 11 = .ok (.ifCond .eq 9, 3) := by decide +kernel
theorem dX5_sizeOf_14 : decode cX5_sizeOf 14 = .ok (.iinc 1 1, 3) := by decide +kernel
theorem dX5_sizeOf_17 : decode cX5_sizeOf 17 = .ok (.goto (-15), 3) := by decide +kernel
theorem dX5_sizeOf_20 : decode cX5_sizeOf 20 = .ok (.iload_n 1, 1) := by decide +kernel
theorem dX5_sizeOf_21 : decode cX5_sizeOf 21 = .ok (.ireturn, 1) := by decide +kernel
theorem dX5_isWeight_0 : decode cX5_isWeight 0 = .ok (.iload_n 0, 1) := by decide +kernel
theorem dX5_isWeight_1 : decode cX5_isWeight 1 = .ok (.i2l, 1) := by decide +kernel
theorem dX5_isWeight_2 : decode cX5_isWeight 2 = .ok (.lconst 0, 1) := by decide +kernel
theorem dX5_isWeight_3 : decode cX5_isWeight 3 = .ok (.ldc2_w 96, 3) := by decide +kernel
theorem dX5_isWeight_6 : decode cX5_isWeight 6 = .ok (.invokestatic 98, 3) := by decide +kernel
theorem dX5_isWeight_9 : decode cX5_isWeight 9 = .ok (.ifCond .eq 13, 3) := by decide +kernel
theorem dX5_isWeight_12 : decode cX5_isWeight 12 = .ok (.iload_n 0, 1) := by decide +kernel
theorem dX5_isWeight_13 : decode cX5_isWeight 13 = .ok (.iconst 2, 1) := by decide +kernel
theorem dX5_isWeight_14 : decode cX5_isWeight 14 = .ok (.irem, 1) := by decide +kernel
theorem dX5_isWeight_15 : decode cX5_isWeight 15 = .ok (.ifCond .ne 7, 3) := by decide +kernel
theorem dX5_isWeight_18 : decode cX5_isWeight 18 = .ok (.iconst 1, 1) := by decide +kernel
theorem dX5_isWeight_19 : decode cX5_isWeight 19 = .ok (.goto 4, 3) := by decide +kernel
theorem dX5_isWeight_22 : decode cX5_isWeight 22 = .ok (.iconst 0, 1) := by decide +kernel
theorem dX5_isWeight_23 : decode cX5_isWeight 23 = .ok (.ireturn, 1) := by decide +kernel
theorem dX5_fillBasis_0 : decode cX5_fillBasis 0 = .ok (.iload_n 1, 1) := by decide +kernel
theorem dX5_fillBasis_1 : decode cX5_fillBasis 1 = .ok (.bipush 12, 2) := by decide +kernel
theorem dX5_fillBasis_3 : decode cX5_fillBasis 3 = .ok (.iload_n 2, 1) := by decide +kernel
theorem dX5_fillBasis_4 : decode cX5_fillBasis 4 = .ok (.imul, 1) := by decide +kernel
theorem dX5_fillBasis_5 : decode cX5_fillBasis 5 = .ok (.isub, 1) := by decide +kernel
theorem dX5_fillBasis_6 : decode cX5_fillBasis 6 = .ok (.istore_n 3, 1) := by decide +kernel
theorem dX5_fillBasis_7 : decode cX5_fillBasis 7 = .ok (.iload_n 3, 1) := by decide +kernel
theorem dX5_fillBasis_8 : decode cX5_fillBasis 8 = .ok (.iconst 4, 1) := by decide +kernel
theorem dX5_fillBasis_9 : decode cX5_fillBasis 9 = .ok (.irem, 1) := by decide +kernel
theorem dX5_fillBasis_10 : decode cX5_fillBasis 10 = .ok (.iconst 2, 1) := by decide +kernel
theorem dX5_fillBasis_11 : decode cX5_fillBasis 11 = .ok (.if_icmp .ne 7, 3) := by decide +kernel
theorem dX5_fillBasis_14 : decode cX5_fillBasis 14 = .ok (.iconst 1, 1) := by decide +kernel
theorem dX5_fillBasis_15 : decode cX5_fillBasis 15 = .ok (.goto 4, 3) := by decide +kernel
theorem dX5_fillBasis_18 : decode cX5_fillBasis 18 = .ok (.iconst 0, 1) := by decide +kernel
theorem dX5_fillBasis_19 : decode cX5_fillBasis 19 = .ok (.istore 4, 2) := by decide +kernel
theorem dX5_fillBasis_21 : decode cX5_fillBasis 21 = .ok (.iconst 0, 1) := by decide +kernel
theorem dX5_fillBasis_22 : decode cX5_fillBasis 22 = .ok (.istore 5, 2) := by decide +kernel
theorem dX5_fillBasis_24 : decode cX5_fillBasis 24 = .ok (.iload 5, 2) := by decide +kernel
theorem dX5_fillBasis_26 : decode cX5_fillBasis 26 = .ok (.bipush 48, 2) := by decide +kernel
theorem dX5_fillBasis_28 : decode cX5_fillBasis 28 = .ok (.if_icmp .ge 26, 3) := by decide +kernel
theorem dX5_fillBasis_31 : decode cX5_fillBasis 31 = .ok (.aload_n 0, 1) := by decide +kernel
theorem dX5_fillBasis_32 : decode cX5_fillBasis 32 = .ok (.getfield 44, 3) := by decide +kernel
theorem dX5_fillBasis_35 : decode cX5_fillBasis 35 = .ok (.iload 5, 2) := by decide +kernel
theorem dX5_fillBasis_37 : decode cX5_fillBasis 37 = .ok (.iload 5, 2) := by decide +kernel
theorem dX5_fillBasis_39 : decode cX5_fillBasis 39 = .ok (.ifCond .ne 7, 3) := by decide +kernel
theorem dX5_fillBasis_42 : decode cX5_fillBasis 42 = .ok (.lconst 1, 1) := by decide +kernel
theorem dX5_fillBasis_43 : decode cX5_fillBasis 43 = .ok (.goto 4, 3) := by decide +kernel
theorem dX5_fillBasis_46 : decode cX5_fillBasis 46 = .ok (.lconst 0, 1) := by decide +kernel
theorem dX5_fillBasis_47 : decode cX5_fillBasis 47 = .ok (.lastore, 1) := by decide +kernel
theorem dX5_fillBasis_48 : decode cX5_fillBasis 48 = .ok (.iinc 5 1, 3) := by decide +kernel
theorem dX5_fillBasis_51 : decode cX5_fillBasis 51 = .ok (.goto (-27), 3) := by decide +kernel
theorem dX5_fillBasis_54 : decode cX5_fillBasis 54 = .ok (.iconst 0, 1) := by decide +kernel
theorem dX5_fillBasis_55 : decode cX5_fillBasis 55 = .ok (.istore 5, 2) := by decide +kernel
theorem dX5_fillBasis_57 : decode cX5_fillBasis 57 = .ok (.iload 5, 2) := by decide +kernel
theorem dX5_fillBasis_59 : decode cX5_fillBasis 59 = .ok (.iload_n 2, 1) := by decide +kernel
theorem dX5_fillBasis_60 : decode cX5_fillBasis 60 = .ok (.if_icmp .ge 21, 3) := by decide +kernel
theorem dX5_fillBasis_63 : decode cX5_fillBasis 63 = .ok (.aload_n 0, 1) := by decide +kernel
theorem dX5_fillBasis_64 : decode cX5_fillBasis 64 = .ok (.aload_n 0, 1) := by decide +kernel
theorem dX5_fillBasis_65 : decode cX5_fillBasis 65 = .ok (.getfield 44, 3) := by decide +kernel
theorem dX5_fillBasis_68 : decode cX5_fillBasis 68 = .ok (.aload_n 0, 1) := by decide +kernel
theorem dX5_fillBasis_69 : decode cX5_fillBasis 69 = .ok (.getfield 35, 3) := by decide +kernel
theorem dX5_fillBasis_72 : decode cX5_fillBasis 72 = .ok (.invokevirtual 102, 3) := by decide +kernel
theorem dX5_fillBasis_75 : decode cX5_fillBasis 75 = .ok (.iinc 5 1, 3) := by decide +kernel
theorem dX5_fillBasis_78 : decode cX5_fillBasis 78 = .ok (.goto (-21), 3) := by decide +kernel
theorem dX5_fillBasis_81 : decode cX5_fillBasis 81 = .ok (.iconst 0, 1) := by decide +kernel
theorem dX5_fillBasis_82 : decode cX5_fillBasis 82 = .ok (.istore 5, 2) := by decide +kernel
theorem dX5_fillBasis_84 : decode cX5_fillBasis 84 = .ok (.iload 5, 2) := by decide +kernel
theorem dX5_fillBasis_86 : decode cX5_fillBasis 86 = .ok (.iload_n 3, 1) := by decide +kernel
theorem dX5_fillBasis_87 : decode cX5_fillBasis 87 = .ok (.bipush 6, 2) := by decide +kernel
theorem dX5_fillBasis_89 : decode cX5_fillBasis 89 = .ok (.iload 4, 2) := by decide +kernel
theorem dX5_fillBasis_91 : decode cX5_fillBasis 91 = .ok (.imul, 1) := by decide +kernel
theorem dX5_fillBasis_92 : decode cX5_fillBasis 92 = .ok (.isub, 1) := by decide +kernel
theorem dX5_fillBasis_93 : decode cX5_fillBasis 93 = .ok (.iconst 4, 1) := by decide +kernel
theorem dX5_fillBasis_94 : decode cX5_fillBasis 94 = .ok (.idiv, 1) := by decide +kernel
theorem dX5_fillBasis_95 : decode cX5_fillBasis 95 = .ok (.if_icmp .ge 21, 3) := by decide +kernel
theorem dX5_fillBasis_98 : decode cX5_fillBasis 98 = .ok (.aload_n 0, 1) := by decide +kernel
theorem dX5_fillBasis_99 : decode cX5_fillBasis 99 = .ok (.aload_n 0, 1) := by decide +kernel
theorem dX5_fillBasis_100 : decode cX5_fillBasis 100 = .ok (.getfield 44, 3) := by decide +kernel
theorem dX5_fillBasis_103 : decode cX5_fillBasis 103 = .ok (.aload_n 0, 1) := by decide +kernel
theorem dX5_fillBasis_104 : decode cX5_fillBasis 104 = .ok (.getfield 29, 3) := by decide +kernel
theorem dX5_fillBasis_107 : decode cX5_fillBasis 107 = .ok (.invokevirtual 102, 3) := by decide +kernel
theorem dX5_fillBasis_110 : decode cX5_fillBasis 110 = .ok (.iinc 5 1, 3) := by decide +kernel
theorem dX5_fillBasis_113 : decode cX5_fillBasis 113 = .ok (.goto (-29), 3) := by decide +kernel
theorem dX5_fillBasis_116 : decode cX5_fillBasis 116 = .ok (.iload 4, 2) := by decide +kernel
theorem dX5_fillBasis_118 : decode cX5_fillBasis 118 = .ok (.iconst 1, 1) := by decide +kernel
theorem dX5_fillBasis_119 : decode cX5_fillBasis 119 = .ok (.if_icmp .ne 15, 3) := by decide +kernel
theorem dX5_fillBasis_122 : decode cX5_fillBasis 122 = .ok (.aload_n 0, 1) := by decide +kernel
theorem dX5_fillBasis_123 : decode cX5_fillBasis 123 = .ok (.aload_n 0, 1) := by decide +kernel
theorem dX5_fillBasis_124 : decode cX5_fillBasis 124 = .ok (.getfield 44, 3) := by decide +kernel
theorem dX5_fillBasis_127 : decode cX5_fillBasis 127 = .ok (.aload_n 0, 1) := by decide +kernel
theorem dX5_fillBasis_128 : decode cX5_fillBasis 128 = .ok (.getfield 32, 3) := by decide +kernel
theorem dX5_fillBasis_131 : decode cX5_fillBasis 131 = .ok (.invokevirtual 102, 3) := by decide +kernel
theorem dX5_fillBasis_134 : decode cX5_fillBasis 134 = .ok (.return_, 1) := by decide +kernel
theorem dX5_finds_0 : decode cX5_finds 0 = .ok (.iload_n 2, 1) := by decide +kernel
theorem dX5_finds_1 : decode cX5_finds 1 = .ok (.invokestatic 106, 3) := by decide +kernel
theorem dX5_finds_4 : decode cX5_finds 4 = .ok (.istore_n 3, 1) := by decide +kernel
theorem dX5_finds_5 : decode cX5_finds 5 = .ok (.iconst 0, 1) := by decide +kernel
theorem dX5_finds_6 : decode cX5_finds 6 = .ok (.istore 4, 2) := by decide +kernel
theorem dX5_finds_8 : decode cX5_finds 8 = .ok (.iload 4, 2) := by decide +kernel
theorem dX5_finds_10 : decode cX5_finds 10 = .ok (.iload_n 3, 1) := by decide +kernel
theorem dX5_finds_11 : decode cX5_finds 11 = .ok (.if_icmp .ge 20, 3) := by decide +kernel
theorem dX5_finds_14 : decode cX5_finds 14 = .ok (.aload_n 0, 1) := by decide +kernel
theorem dX5_finds_15 : decode cX5_finds 15 = .ok (.getfield 41, 3) := by decide +kernel
theorem dX5_finds_18 : decode cX5_finds 18 = .ok (.iload 4, 2) := by decide +kernel
theorem dX5_finds_20 : decode cX5_finds 20 = .ok (.aload_n 1, 1) := by decide +kernel
theorem dX5_finds_21 : decode cX5_finds 21 = .ok (.iload 4, 2) := by decide +kernel
theorem dX5_finds_23 : decode cX5_finds 23 = .ok (.laload, 1) := by decide +kernel
theorem dX5_finds_24 : decode cX5_finds 24 = .ok (.lastore, 1) := by decide +kernel
theorem dX5_finds_25 : decode cX5_finds 25 = .ok (.iinc 4 1, 3) := by decide +kernel
theorem dX5_finds_28 : decode cX5_finds 28 = .ok (.goto (-20), 3) := by decide +kernel
theorem dX5_finds_31 : decode cX5_finds 31 = .ok (.iconst 0, 1) := by decide +kernel
theorem dX5_finds_32 : decode cX5_finds 32 = .ok (.istore 4, 2) := by decide +kernel
theorem dX5_finds_34 : decode cX5_finds 34 = .ok (.iload 4, 2) := by decide +kernel
theorem dX5_finds_36 : decode cX5_finds 36 = .ok (.iload_n 3, 1) := by decide +kernel
theorem dX5_finds_37 : decode cX5_finds 37 = .ok (.if_icmp .ge 83, 3) := by decide +kernel
theorem dX5_finds_40 : decode cX5_finds 40 = .ok (.aload_n 0, 1) := by decide +kernel
theorem dX5_finds_41 : decode cX5_finds 41 = .ok (.getfield 47, 3) := by decide +kernel
theorem dX5_finds_44 : decode cX5_finds 44 = .ok (.iload 4, 2) := by decide +kernel
theorem dX5_finds_46 : decode cX5_finds 46 = .ok (.aload_n 0, 1) := by decide +kernel
theorem dX5_finds_47 : decode cX5_finds 47 = .ok (.getfield 41, 3) := by decide +kernel
theorem dX5_finds_50 : decode cX5_finds 50 = .ok (.iload 4, 2) := by decide +kernel
theorem dX5_finds_52 : decode cX5_finds 52 = .ok (.laload, 1) := by decide +kernel
theorem dX5_finds_53 : decode cX5_finds 53 = .ok (.lastore, 1) := by decide +kernel
theorem dX5_finds_54 : decode cX5_finds 54 = .ok (.aload_n 0, 1) := by decide +kernel
theorem dX5_finds_55 : decode cX5_finds 55 = .ok (.iload_n 2, 1) := by decide +kernel
theorem dX5_finds_56 : decode cX5_finds 56 = .ok (.iload 4, 2) := by decide +kernel
theorem dX5_finds_58 : decode cX5_finds 58 = .ok (.invokevirtual 110, 3) := by decide +kernel
theorem dX5_finds_61 : decode cX5_finds 61 = .ok (.iconst 0, 1) := by decide +kernel
theorem dX5_finds_62 : decode cX5_finds 62 = .ok (.istore 5, 2) := by decide +kernel
theorem dX5_finds_64 : decode cX5_finds 64 = .ok (.iload 5, 2) := by decide +kernel
theorem dX5_finds_66 : decode cX5_finds 66 = .ok (.iload_n 3, 1) := by decide +kernel
theorem dX5_finds_67 : decode cX5_finds 67 = .ok (.if_icmp .ge 47, 3) := by decide +kernel
theorem dX5_finds_70 : decode cX5_finds 70 = .ok (.aload_n 0, 1) := by decide +kernel
theorem dX5_finds_71 : decode cX5_finds 71 = .ok (.getfield 41, 3) := by decide +kernel
theorem dX5_finds_74 : decode cX5_finds 74 = .ok (.iload 5, 2) := by decide +kernel
theorem dX5_finds_76 : decode cX5_finds 76 = .ok (.aload_n 0, 1) := by decide +kernel
theorem dX5_finds_77 : decode cX5_finds 77 = .ok (.getfield 41, 3) := by decide +kernel
theorem dX5_finds_80 : decode cX5_finds 80 = .ok (.iload 5, 2) := by decide +kernel
theorem dX5_finds_82 : decode cX5_finds 82 = .ok (.laload, 1) := by decide +kernel
theorem dX5_finds_83 : decode cX5_finds 83 = .ok (.ldc2_w 79, 3) := by decide +kernel
theorem dX5_finds_86 : decode cX5_finds 86 = .ok (.aload_n 0, 1) := by decide +kernel
theorem dX5_finds_87 : decode cX5_finds 87 = .ok (.getfield 47, 3) := by decide +kernel
theorem dX5_finds_90 : decode cX5_finds 90 = .ok (.iload 4, 2) := by decide +kernel
theorem dX5_finds_92 : decode cX5_finds 92 = .ok (.laload, 1) := by decide +kernel
theorem dX5_finds_93 : decode cX5_finds 93 = .ok (.lsub, 1) := by decide +kernel
theorem dX5_finds_94 : decode cX5_finds 94 = .ok (.aload_n 0, 1) := by decide +kernel
theorem dX5_finds_95 : decode cX5_finds 95 = .ok (.getfield 44, 3) := by decide +kernel
theorem dX5_finds_98 : decode cX5_finds 98 = .ok (.iload 5, 2) := by decide +kernel
theorem dX5_finds_100 : decode cX5_finds 100 = .ok (.laload, 1) := by decide +kernel
theorem dX5_finds_101 : decode cX5_finds 101 = .ok (.lmul, 1) := by decide +kernel
theorem dX5_finds_102 : decode cX5_finds 102 = .ok (.ladd, 1) := by decide +kernel
theorem dX5_finds_103 : decode cX5_finds 103 = .ok (.ldc2_w 79, 3) := by decide +kernel
theorem dX5_finds_106 : decode cX5_finds 106 = .ok (.lrem, 1) := by decide +kernel
theorem dX5_finds_107 : decode cX5_finds 107 = .ok (.lastore, 1) := by decide +kernel
theorem dX5_finds_108 : decode cX5_finds 108 = .ok (.iinc 5 1, 3) := by decide +kernel
theorem dX5_finds_111 : decode cX5_finds 111 = .ok (.goto (-47), 3) := by decide +kernel
theorem dX5_finds_114 : decode cX5_finds 114 = .ok (.iinc 4 1, 3) := by decide +kernel
theorem dX5_finds_117 : decode cX5_finds 117 = .ok (.goto (-83), 3) := by decide +kernel
theorem dX5_finds_120 : decode cX5_finds 120 = .ok (.return_, 1) := by decide +kernel
theorem dX5_builds_0 : decode cX5_builds 0 = .ok (.iconst 0, 1) := by decide +kernel
theorem dX5_builds_1 : decode cX5_builds 1 = .ok (.istore_n 3, 1) := by decide +kernel
theorem dX5_builds_2 : decode cX5_builds 2 = .ok (.iload_n 3, 1) := by decide +kernel
theorem dX5_builds_3 : decode cX5_builds 3 = .ok (.bipush 48, 2) := by decide +kernel
theorem dX5_builds_5 : decode cX5_builds 5 = .ok (.if_icmp .ge 16, 3) := by decide +kernel
theorem dX5_builds_8 : decode cX5_builds 8 = .ok (.aload_n 0, 1) := by decide +kernel
theorem dX5_builds_9 : decode cX5_builds 9 = .ok (.getfield 38, 3) := by decide +kernel
theorem dX5_builds_12 : decode cX5_builds 12 = .ok (.iload_n 3, 1) := by decide +kernel
theorem dX5_builds_13 : decode cX5_builds 13 = .ok (.lconst 0, 1) := by decide +kernel
theorem dX5_builds_14 : decode cX5_builds 14 = .ok (.lastore, 1) := by decide +kernel
theorem dX5_builds_15 : decode cX5_builds 15 = .ok (.iinc 3 1, 3) := by decide +kernel
theorem dX5_builds_18 : decode cX5_builds 18 = .ok (.goto (-16), 3) := by decide +kernel
theorem dX5_builds_21 : decode cX5_builds 21 = .ok (.iconst 0, 1) := by decide +kernel
theorem dX5_builds_22 : decode cX5_builds 22 = .ok (.istore_n 3, 1) := by decide +kernel
theorem dX5_builds_23 : decode cX5_builds 23 = .ok (.iload_n 3, 1) := by decide +kernel
theorem dX5_builds_24 : decode cX5_builds 24 = .ok (.iload_n 1, 1) := by decide +kernel
theorem dX5_builds_25 : decode cX5_builds 25 = .ok (.invokestatic 106, 3) := by decide +kernel
theorem dX5_builds_28 : decode cX5_builds 28 = .ok (.if_icmp .ge 66, 3) := by decide +kernel
theorem dX5_builds_31 : decode cX5_builds 31 = .ok (.aload_n 0, 1) := by decide +kernel
theorem dX5_builds_32 : decode cX5_builds 32 = .ok (.iload_n 1, 1) := by decide +kernel
theorem dX5_builds_33 : decode cX5_builds 33 = .ok (.iload_n 3, 1) := by decide +kernel
theorem dX5_builds_34 : decode cX5_builds 34 = .ok (.invokevirtual 110, 3) := by decide +kernel
theorem dX5_builds_37 : decode cX5_builds 37 = .ok (.iconst 0, 1) := by decide +kernel
theorem dX5_builds_38 : decode cX5_builds 38 = .ok (.istore 4, 2) := by decide +kernel
theorem dX5_builds_40 : decode cX5_builds 40 = .ok (.iload 4, 2) := by decide +kernel
theorem dX5_builds_42 : decode cX5_builds 42 = .ok (.bipush 48, 2) := by decide +kernel
theorem dX5_builds_44 : decode cX5_builds 44 = .ok (.if_icmp .ge 44, 3) := by decide +kernel
theorem dX5_builds_47 : decode cX5_builds 47 = .ok (.aload_n 0, 1) := by decide +kernel
theorem dX5_builds_48 : decode cX5_builds 48 = .ok (.getfield 38, 3) := by decide +kernel
theorem dX5_builds_51 : decode cX5_builds 51 = .ok (.iload 4, 2) := by decide +kernel
theorem dX5_builds_53 : decode cX5_builds 53 = .ok (.aload_n 0, 1) := by decide +kernel
theorem dX5_builds_54 : decode cX5_builds 54 = .ok (.getfield 38, 3) := by decide +kernel
theorem dX5_builds_57 : decode cX5_builds 57 = .ok (.iload 4, 2) := by decide +kernel
theorem dX5_builds_59 : decode cX5_builds 59 = .ok (.laload, 1) := by decide +kernel
theorem dX5_builds_60 : decode cX5_builds 60 = .ok (.aload_n 0, 1) := by decide +kernel
theorem dX5_builds_61 : decode cX5_builds 61 = .ok (.getfield 47, 3) := by decide +kernel
theorem dX5_builds_64 : decode cX5_builds 64 = .ok (.iload_n 3, 1) := by decide +kernel
theorem dX5_builds_65 : decode cX5_builds 65 = .ok (.iload_n 2, 1) := by decide +kernel
theorem dX5_builds_66 : decode cX5_builds 66 = .ok (.iadd, 1) := by decide +kernel
theorem dX5_builds_67 : decode cX5_builds 67 = .ok (.laload, 1) := by decide +kernel
theorem dX5_builds_68 : decode cX5_builds 68 = .ok (.aload_n 0, 1) := by decide +kernel
theorem dX5_builds_69 : decode cX5_builds 69 = .ok (.getfield 44, 3) := by decide +kernel
theorem dX5_builds_72 : decode cX5_builds 72 = .ok (.iload 4, 2) := by decide +kernel
theorem dX5_builds_74 : decode cX5_builds 74 = .ok (.laload, 1) := by decide +kernel
theorem dX5_builds_75 : decode cX5_builds 75 = .ok (.lmul, 1) := by decide +kernel
theorem dX5_builds_76 : decode cX5_builds 76 = .ok (.ladd, 1) := by decide +kernel
theorem dX5_builds_77 : decode cX5_builds 77 = .ok (.ldc2_w 79, 3) := by decide +kernel
theorem dX5_builds_80 : decode cX5_builds 80 = .ok (.lrem, 1) := by decide +kernel
theorem dX5_builds_81 : decode cX5_builds 81 = .ok (.lastore, 1) := by decide +kernel
theorem dX5_builds_82 : decode cX5_builds 82 = .ok (.iinc 4 1, 3) := by decide +kernel
theorem dX5_builds_85 : decode cX5_builds 85 = .ok (.goto (-45), 3) := by decide +kernel
theorem dX5_builds_88 : decode cX5_builds 88 = .ok (.iinc 3 1, 3) := by decide +kernel
theorem dX5_builds_91 : decode cX5_builds 91 = .ok (.goto (-68), 3) := by decide +kernel
theorem dX5_builds_94 : decode cX5_builds 94 = .ok (.return_, 1) := by decide +kernel
theorem dX5_comes_0 : decode cX5_comes 0 = .ok (.iload_n 1, 1) := by decide +kernel
theorem dX5_comes_1 : decode cX5_comes 1 = .ok (.bipush 40, 2) := by decide +kernel
theorem dX5_comes_3 : decode cX5_comes 3 = .ok (.if_icmp .gt 12, 3) := by decide +kernel
theorem dX5_comes_6 : decode cX5_comes 6 = .ok (.aload_n 0, 1) := by decide +kernel
theorem dX5_comes_7 : decode cX5_comes 7 = .ok (.getfield 89, 3) := by decide +kernel
theorem dX5_comes_10 : decode cX5_comes 10 = .ok (.bipush 16, 2) := by decide +kernel
theorem dX5_comes_12 : decode cX5_comes 12 = .ok (.if_icmp .ne 10, 3) := by decide +kernel
theorem dX5_comes_15 : decode cX5_comes 15 = .ok (.aload_n 0, 1) := by decide +kernel
theorem dX5_comes_16 : decode cX5_comes 16 = .ok (.bipush (-8), 2) := by decide +kernel
theorem dX5_comes_18 : decode cX5_comes 18 = .ok (.invokevirtual 114, 3) := by decide +kernel
theorem dX5_comes_21 : decode cX5_comes 21 = .ok (.ireturn, 1) := by decide +kernel
theorem dX5_comes_22 : decode cX5_comes 22 = .ok (.iconst 0, 1) := by decide +kernel
theorem dX5_comes_23 : decode cX5_comes 23 = .ok (.istore 4, 2) := by decide +kernel
theorem dX5_comes_25 : decode cX5_comes 25 = .ok (.iload 4, 2) := by decide +kernel
theorem dX5_comes_27 : decode cX5_comes 27 = .ok (.bipush 48, 2) := by decide +kernel
theorem dX5_comes_29 : decode cX5_comes 29 = .ok (.if_icmp .ge 31, 3) := by decide +kernel
theorem dX5_comes_32 : decode cX5_comes 32 = .ok (.aload_n 0, 1) := by decide +kernel
theorem dX5_comes_33 : decode cX5_comes 33 = .ok (.getfield 7, 3) := by decide +kernel
theorem dX5_comes_36 : decode cX5_comes 36 = .ok (.bipush 48, 2) := by decide +kernel
theorem dX5_comes_38 : decode cX5_comes 38 = .ok (.aload_n 0, 1) := by decide +kernel
theorem dX5_comes_39 : decode cX5_comes 39 = .ok (.getfield 89, 3) := by decide +kernel
theorem dX5_comes_42 : decode cX5_comes 42 = .ok (.imul, 1) := by decide +kernel
theorem dX5_comes_43 : decode cX5_comes 43 = .ok (.iload 4, 2) := by decide +kernel
theorem dX5_comes_45 : decode cX5_comes 45 = .ok (.iadd, 1) := by decide +kernel
theorem dX5_comes_46 : decode cX5_comes 46 = .ok (.aload_n 0, 1) := by decide +kernel
theorem dX5_comes_47 : decode cX5_comes 47 = .ok (.getfield 38, 3) := by decide +kernel
theorem dX5_comes_50 : decode cX5_comes 50 = .ok (.iload 4, 2) := by decide +kernel
theorem dX5_comes_52 : decode cX5_comes 52 = .ok (.laload, 1) := by decide +kernel
theorem dX5_comes_53 : decode cX5_comes 53 = .ok (.lastore, 1) := by decide +kernel
theorem dX5_comes_54 : decode cX5_comes 54 = .ok (.iinc 4 1, 3) := by decide +kernel
theorem dX5_comes_57 : decode cX5_comes 57 = .ok (.goto (-32), 3) := by decide +kernel
theorem dX5_comes_60 : decode cX5_comes 60 = .ok (.aload_n 0, 1) := by decide +kernel
theorem dX5_comes_61 : decode cX5_comes 61 = .ok (.getfield 17, 3) := by decide +kernel
theorem dX5_comes_64 : decode cX5_comes 64 = .ok (.aload_n 0, 1) := by decide +kernel
theorem dX5_comes_65 : decode cX5_comes 65 = .ok (.getfield 89, 3) := by decide +kernel
theorem dX5_comes_68 : decode cX5_comes 68 = .ok (.iload_n 1, 1) := by decide +kernel
theorem dX5_comes_69 : decode cX5_comes 69 = .ok (.iastore, 1) := by decide +kernel
theorem dX5_comes_70 : decode cX5_comes 70 = .ok (.aload_n 0, 1) := by decide +kernel
theorem dX5_comes_71 : decode cX5_comes 71 = .ok (.getfield 13, 3) := by decide +kernel
theorem dX5_comes_74 : decode cX5_comes 74 = .ok (.aload_n 0, 1) := by decide +kernel
theorem dX5_comes_75 : decode cX5_comes 75 = .ok (.getfield 89, 3) := by decide +kernel
theorem dX5_comes_78 : decode cX5_comes 78 = .ok (.iload_n 2, 1) := by decide +kernel
theorem dX5_comes_79 : decode cX5_comes 79 = .ok (.iastore, 1) := by decide +kernel
theorem dX5_comes_80 : decode cX5_comes 80 = .ok (.aload_n 0, 1) := by decide +kernel
theorem dX5_comes_81 : decode cX5_comes 81 = .ok (.getfield 20, 3) := by decide +kernel
theorem dX5_comes_84 : decode cX5_comes 84 = .ok (.aload_n 0, 1) := by decide +kernel
theorem dX5_comes_85 : decode cX5_comes 85 = .ok (.getfield 89, 3) := by decide +kernel
theorem dX5_comes_88 : decode cX5_comes 88 = .ok (.iload_n 3, 1) := by decide +kernel
theorem dX5_comes_89 : decode cX5_comes 89 = .ok (.iastore, 1) := by decide +kernel
theorem dX5_comes_90 : decode cX5_comes 90 = .ok (.aload_n 0, 1) := by decide +kernel
theorem dX5_comes_91 : decode cX5_comes 91 = .ok (.dup, 1) := by decide +kernel
theorem dX5_comes_92 : decode cX5_comes 92 = .ok (.getfield 89, 3) := by decide +kernel
theorem dX5_comes_95 : decode cX5_comes 95 = .ok (.iconst 1, 1) := by decide +kernel
theorem dX5_comes_96 : decode cX5_comes 96 = .ok (.iadd, 1) := by decide +kernel
theorem dX5_comes_97 : decode cX5_comes 97 = .ok (.putfield 89, 3) := by decide +kernel
theorem dX5_comes_100 : decode cX5_comes 100 = .ok (.aload_n 0, 1) := by decide +kernel
theorem dX5_comes_101 : decode cX5_comes 101 = .ok (.getfield 89, 3) := by decide +kernel
theorem dX5_comes_104 : decode cX5_comes 104 = .ok (.iconst 1, 1) := by decide +kernel
theorem dX5_comes_105 : decode cX5_comes 105 = .ok (.isub, 1) := by decide +kernel
theorem dX5_comes_106 : decode cX5_comes 106 = .ok (.ireturn, 1) := by decide +kernel
theorem dX5_made_0 : decode cX5_made 0 = .ok (.aload_n 0, 1) := by decide +kernel
theorem dX5_made_1 : decode cX5_made 1 = .ok (.iload_n 1, 1) := by decide +kernel
theorem dX5_made_2 : decode cX5_made 2 = .ok (.iload_n 1, 1) := by decide +kernel
theorem dX5_made_3 : decode cX5_made 3 = .ok (.ifCond .ne 7, 3) := by decide +kernel
theorem dX5_made_6 : decode cX5_made 6 = .ok (.iconst 3, 1) := by decide +kernel
theorem dX5_made_7 : decode cX5_made 7 = .ok (.goto 19, 3) := by decide +kernel
theorem dX5_made_10 : decode cX5_made 10 = .ok (.aload_n 0, 1) := by decide +kernel
theorem dX5_made_11 : decode cX5_made 11 = .ok (.getfield 38, 3) := by decide +kernel
theorem dX5_made_14 : decode cX5_made 14 = .ok (.iconst 0, 1) := by decide +kernel
theorem dX5_made_15 : decode cX5_made 15 = .ok (.laload, 1) := by decide +kernel
theorem dX5_made_16 : decode cX5_made 16 = .ok (.lconst 0, 1) := by decide +kernel
theorem dX5_made_17 : decode cX5_made 17 = .ok (.lcmp, 1) := by decide +kernel
theorem dX5_made_18 : decode cX5_made 18 = .ok (.ifCond .ne 7, 3) := by decide +kernel
theorem dX5_made_21 : decode cX5_made 21 = .ok (.iconst 4, 1) := by decide +kernel
theorem dX5_made_22 : decode cX5_made 22 = .ok (.goto 4, 3) := by decide +kernel
theorem dX5_made_25 : decode cX5_made 25 = .ok (.iconst 0, 1) := by decide +kernel
theorem dX5_made_26 : decode cX5_made 26 = .ok (.iconst 0, 1) := by decide +kernel
theorem dX5_made_27 : decode cX5_made 27 = .ok (.invokevirtual 117, 3) := by decide +kernel
theorem dX5_made_30 : decode cX5_made 30 = .ok (.ireturn, 1) := by decide +kernel
theorem dX5_sums_0 : decode cX5_sums 0 = .ok (.iload_n 1, 1) := by decide +kernel
theorem dX5_sums_1 : decode cX5_sums 1 = .ok (.iconst 4, 1) := by decide +kernel
theorem dX5_sums_2 : decode cX5_sums 2 = .ok (.if_icmp .ne 9, 3) := by decide +kernel
theorem dX5_sums_5 : decode cX5_sums 5 = .ok (.ldc2_w 75, 3) := by decide +kernel
theorem dX5_sums_8 : decode cX5_sums 8 = .ok (.goto 75, 3) := by decide +kernel
theorem dX5_sums_11 : decode cX5_sums 11 = .ok (.iload_n 1, 1) := by decide +kernel
theorem dX5_sums_12 : decode cX5_sums 12 = .ok (.bipush 6, 2) := by decide +kernel
theorem dX5_sums_14 : decode cX5_sums 14 = .ok (.if_icmp .ne 9, 3) := by decide +kernel
theorem dX5_sums_17 : decode cX5_sums 17 = .ok (.ldc2_w 77, 3) := by decide +kernel
theorem dX5_sums_20 : decode cX5_sums 20 = .ok (.goto 63, 3) := by decide +kernel
theorem dX5_sums_23 : decode cX5_sums 23 = .ok (.iload_n 1, 1) := by decide +kernel
theorem dX5_sums_24 : decode cX5_sums 24 = .ok (.bipush 8, 2) := by decide +kernel
theorem dX5_sums_26 : decode cX5_sums 26 = .ok (.if_icmp .ne 9, 3) := by decide +kernel
theorem dX5_sums_29 : decode cX5_sums 29 = .ok (.ldc2_w 121, 3) := by decide +kernel
theorem dX5_sums_32 : decode cX5_sums 32 = .ok (.goto 51, 3) := by decide +kernel
theorem dX5_sums_35 : decode cX5_sums 35 = .ok (.iload_n 1, 1) := by decide +kernel
theorem dX5_sums_36 : decode cX5_sums 36 = .ok (.bipush 10, 2) := by decide +kernel
theorem dX5_sums_38 : decode cX5_sums 38 = .ok (.if_icmp .ne 9, 3) := by decide +kernel
theorem dX5_sums_41 : decode cX5_sums 41 = .ok (.ldc2_w 123, 3) := by decide +kernel
theorem dX5_sums_44 : decode cX5_sums 44 = .ok (.goto 39, 3) := by decide +kernel
theorem dX5_sums_47 : decode cX5_sums 47 = .ok (.iload_n 1, 1) := by decide +kernel
theorem dX5_sums_48 : decode cX5_sums 48 = .ok (.bipush 12, 2) := by decide +kernel
theorem dX5_sums_50 : decode cX5_sums 50 = .ok (.if_icmp .ne 20, 3) := by decide +kernel
theorem dX5_sums_53 : decode cX5_sums 53 = .ok (.ldc2_w 125, 3) := by decide +kernel
theorem dX5_sums_56 : decode cX5_sums 56 = .ok (.ldc2_w 127, 3) := by decide +kernel
theorem dX5_sums_59 : decode cX5_sums 59 = .ok (.invokestatic 129, 3) := by decide +kernel
theorem dX5_sums_62 : decode cX5_sums 62 = .ok (.lmul, 1) := by decide +kernel
theorem dX5_sums_63 : decode cX5_sums 63 = .ok (.ldc2_w 79, 3) := by decide +kernel
theorem dX5_sums_66 : decode cX5_sums 66 = .ok (.lrem, 1) := by decide +kernel
theorem dX5_sums_67 : decode cX5_sums 67 = .ok (.goto 16, 3) := by decide +kernel
theorem dX5_sums_70 : decode cX5_sums 70 = .ok (.iload_n 1, 1) := by decide +kernel
theorem dX5_sums_71 : decode cX5_sums 71 = .ok (.bipush 14, 2) := by decide +kernel
theorem dX5_sums_73 : decode cX5_sums 73 = .ok (.if_icmp .ne 9, 3) := by decide +kernel
theorem dX5_sums_76 : decode cX5_sums 76 = .ok (.ldc2_w 69, 3) := by decide +kernel
theorem dX5_sums_79 : decode cX5_sums 79 = .ok (.goto 4, 3) := by decide +kernel
theorem dX5_sums_82 : decode cX5_sums 82 = .ok (.lconst 0, 1) := by decide +kernel
theorem dX5_sums_83 : decode cX5_sums 83 = .ok (.lstore_n 2, 1) := by decide +kernel
theorem dX5_sums_84 : decode cX5_sums 84 = .ok (.lload_n 2, 1) := by decide +kernel
theorem dX5_sums_85 : decode cX5_sums 85 = .ok (.lconst 0, 1) := by decide +kernel
theorem dX5_sums_86 : decode cX5_sums 86 = .ok (.lcmp, 1) := by decide +kernel
theorem dX5_sums_87 : decode cX5_sums 87 = .ok (.ifCond .ne 10, 3) := by decide +kernel
theorem dX5_sums_90 : decode cX5_sums 90 = .ok (.aload_n 0, 1) := by decide +kernel
theorem dX5_sums_91 : decode cX5_sums 91 = .ok (.bipush (-7), 2) := by decide +kernel
theorem dX5_sums_93 : decode cX5_sums 93 = .ok (.invokevirtual 114, 3) := by decide +kernel
theorem dX5_sums_96 : decode cX5_sums 96 = .ok (.ireturn, 1) := by decide +kernel
theorem dX5_sums_97 : decode cX5_sums 97 = .ok (.aload_n 0, 1) := by decide +kernel
theorem dX5_sums_98 : decode cX5_sums 98 = .ok (.getfield 38, 3) := by decide +kernel
theorem dX5_sums_101 : decode cX5_sums 101 = .ok (.iload_n 1, 1) := by decide +kernel
theorem dX5_sums_102 : decode cX5_sums 102 = .ok (.lload_n 2, 1) := by decide +kernel
theorem dX5_sums_103 : decode cX5_sums 103 = .ok (.invokestatic 71, 3) := by decide +kernel
theorem dX5_sums_106 : decode cX5_sums 106 = .ok (.aload_n 0, 1) := by decide +kernel
theorem dX5_sums_107 : decode cX5_sums 107 = .ok (.iload_n 1, 1) := by decide +kernel
theorem dX5_sums_108 : decode cX5_sums 108 = .ok (.iconst 1, 1) := by decide +kernel
theorem dX5_sums_109 : decode cX5_sums 109 = .ok (.iload_n 1, 1) := by decide +kernel
theorem dX5_sums_110 : decode cX5_sums 110 = .ok (.invokevirtual 117, 3) := by decide +kernel
theorem dX5_sums_113 : decode cX5_sums 113 = .ok (.ireturn, 1) := by decide +kernel
theorem dX5_product_0 : decode cX5_product 0 = .ok (.iload_n 1, 1) := by decide +kernel
theorem dX5_product_1 : decode cX5_product 1 = .ok (.i2l, 1) := by decide +kernel
theorem dX5_product_2 : decode cX5_product 2 = .ok (.lconst 1, 1) := by decide +kernel
theorem dX5_product_3 : decode cX5_product 3 = .ok (.ldc2_w 133, 3) := by decide +kernel
theorem dX5_product_6 : decode cX5_product 6 = .ok (.invokestatic 98, 3) := by decide +kernel
theorem dX5_product_9 : decode cX5_product 9 = .ok (.ifCond .ne 10, 3) := by decide +kernel
theorem dX5_product_12 : decode cX5_product 12 = .ok (.aload_n 0, 1) := by decide +kernel
theorem dX5_product_13 : decode cX5_product 13 = .ok (.bipush (-7), 2) := by decide +kernel
theorem dX5_product_15 : decode cX5_product 15 = .ok (.invokevirtual 114, 3) := by decide +kernel
theorem dX5_product_18 : decode cX5_product 18 = .ok (.ireturn, 1) := by decide +kernel
theorem dX5_product_19 : decode cX5_product 19 = .ok (.iconst 0, 1) := by decide +kernel
theorem dX5_product_20 : decode cX5_product 20 = .ok (.istore_n 2, 1) := by decide +kernel
theorem dX5_product_21 : decode cX5_product 21 = .ok (.iload_n 2, 1) := by decide +kernel
theorem dX5_product_22 : decode cX5_product 22 = .ok (.bipush 48, 2) := by decide +kernel
theorem dX5_product_24 : decode cX5_product 24 = .ok (.if_icmp .ge 24, 3) := by decide +kernel
theorem dX5_product_27 : decode cX5_product 27 = .ok (.aload_n 0, 1) := by decide +kernel
theorem dX5_product_28 : decode cX5_product 28 = .ok (.getfield 38, 3) := by decide +kernel
theorem dX5_product_31 : decode cX5_product 31 = .ok (.iload_n 2, 1) := by decide +kernel
theorem dX5_product_32 : decode cX5_product 32 = .ok (.iload_n 2, 1) := by decide +kernel
theorem dX5_product_33 : decode cX5_product 33 = .ok (.ifCond .ne 7, 3) := by decide +kernel
theorem dX5_product_36 : decode cX5_product 36 = .ok (.lconst 1, 1) := by decide +kernel
theorem dX5_product_37 : decode cX5_product 37 = .ok (.goto 4, 3) := by decide +kernel
theorem dX5_product_40 : decode cX5_product 40 = .ok (.lconst 0, 1) := by decide +kernel
theorem dX5_product_41 : decode cX5_product 41 = .ok (.lastore, 1) := by decide +kernel
theorem dX5_product_42 : decode cX5_product 42 = .ok (.iinc 2 1, 3) := by decide +kernel
theorem dX5_product_45 : decode cX5_product 45 = .ok (.goto (-24), 3) := by decide +kernel
theorem dX5_product_48 : decode cX5_product 48 = .ok (.iconst 0, 1) := by decide +kernel
theorem dX5_product_49 : decode cX5_product 49 = .ok (.istore_n 2, 1) := by decide +kernel
theorem dX5_product_50 : decode cX5_product 50 = .ok (.iload_n 2, 1) := by decide +kernel
theorem dX5_product_51 : decode cX5_product 51 = .ok (.iload_n 1, 1) := by decide +kernel
theorem dX5_product_52 : decode cX5_product 52 = .ok (.if_icmp .ge 21, 3) := by decide +kernel
theorem dX5_product_55 : decode cX5_product 55 = .ok (.aload_n 0, 1) := by decide +kernel
theorem dX5_product_56 : decode cX5_product 56 = .ok (.aload_n 0, 1) := by decide +kernel
theorem dX5_product_57 : decode cX5_product 57 = .ok (.getfield 38, 3) := by decide +kernel
theorem dX5_product_60 : decode cX5_product 60 = .ok (.aload_n 0, 1) := by decide +kernel
theorem dX5_product_61 : decode cX5_product 61 = .ok (.getfield 35, 3) := by decide +kernel
theorem dX5_product_64 : decode cX5_product 64 = .ok (.invokevirtual 102, 3) := by decide +kernel
theorem dX5_product_67 : decode cX5_product 67 = .ok (.iinc 2 1, 3) := by decide +kernel
theorem dX5_product_70 : decode cX5_product 70 = .ok (.goto (-20), 3) := by decide +kernel
theorem dX5_product_73 : decode cX5_product 73 = .ok (.aload_n 0, 1) := by decide +kernel
theorem dX5_product_74 : decode cX5_product 74 = .ok (.bipush 12, 2) := by decide +kernel
theorem dX5_product_76 : decode cX5_product 76 = .ok (.iload_n 1, 1) := by decide +kernel
theorem dX5_product_77 : decode cX5_product 77 = .ok (.imul, 1) := by decide +kernel
theorem dX5_product_78 : decode cX5_product 78 = .ok (.iconst 2, 1) := by decide +kernel
theorem dX5_product_79 : decode cX5_product 79 = .ok (.iload_n 1, 1) := by decide +kernel
theorem dX5_product_80 : decode cX5_product 80 = .ok (.invokevirtual 117, 3) := by decide +kernel
theorem dX5_product_83 : decode cX5_product 83 = .ok (.ireturn, 1) := by decide +kernel
theorem dX5_rest_0 : decode cX5_rest 0 = .ok (.iload_n 0, 1) := by decide +kernel
theorem dX5_rest_1 : decode cX5_rest 1 = .ok (.i2l, 1) := by decide +kernel
theorem dX5_rest_2 : decode cX5_rest 2 = .ok (.ldc2_w 79, 3) := by decide +kernel

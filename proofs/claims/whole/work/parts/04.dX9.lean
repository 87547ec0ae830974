theorem dX9_init_0 : decode cX9_init 0 = .ok (.aload_n 0, 1) := by decide +kernel
theorem dX9_init_1 : decode cX9_init 1 = .ok (.invokespecial 1, 3) := by decide +kernel
theorem dX9_init_4 : decode cX9_init 4 = .ok (.aload_n 0, 1) := by decide +kernel
theorem dX9_init_5 : decode cX9_init 5 = .ok (.bipush 40, 2) := by decide +kernel
theorem dX9_init_7 : decode cX9_init 7 = .ok (.newarray .char, 2) := by decide +kernel
theorem dX9_init_9 : decode cX9_init 9 = .ok (.putfield 7, 3) := by decide +kernel
theorem dX9_init_12 : decode cX9_init 12 = .ok (.aload_n 0, 1) := by decide +kernel
theorem dX9_init_13 : decode cX9_init 13 = .ok (.iconst (-1), 1) := by decide +kernel
theorem dX9_init_14 : decode cX9_init 14 = .ok (.putfield 13, 3) := by decide +kernel
theorem dX9_init_17 : decode cX9_init 17 = .ok (.aload_n 0, 1) := by decide +kernel
theorem dX9_init_18 : decode cX9_init 18 = .ok (.sipush 160, 3) := by decide +kernel
theorem dX9_init_21 : decode cX9_init 21 = .ok (.newarray .int, 2) := by decide +kernel
theorem dX9_init_23 : decode cX9_init 23 = .ok (.putfield 17, 3) := by decide +kernel
theorem dX9_init_26 : decode cX9_init 26 = .ok (.aload_n 0, 1) := by decide +kernel
theorem dX9_init_27 : decode cX9_init 27 = .ok (.sipush 160, 3) := by decide +kernel
theorem dX9_init_30 : decode cX9_init 30 = .ok (.newarray .int, 2) := by decide +kernel
theorem dX9_init_32 : decode cX9_init 32 = .ok (.putfield 21, 3) := by decide +kernel
theorem dX9_init_35 : decode cX9_init 35 = .ok (.aload_n 0, 1) := by decide +kernel
theorem dX9_init_36 : decode cX9_init 36 = .ok (.sipush 160, 3) := by decide +kernel
theorem dX9_init_39 : decode cX9_init 39 = .ok (.newarray .int, 2) := by decide +kernel
theorem dX9_init_41 : decode cX9_init 41 = .ok (.putfield 24, 3) := by decide +kernel
theorem dX9_init_44 : decode cX9_init 44 = .ok (.aload_n 0, 1) := by decide +kernel
theorem dX9_init_45 : decode cX9_init 45 = .ok (.sipush 160, 3) := by decide +kernel
theorem dX9_init_48 : decode cX9_init 48 = .ok (.newarray .int, 2) := by decide +kernel
theorem dX9_init_50 : decode cX9_init 50 = .ok (.putfield 27, 3) := by decide +kernel
theorem dX9_init_53 : decode cX9_init 53 = .ok (.aload_n 0, 1) := by decide +kernel
theorem dX9_init_54 : decode cX9_init 54 = .ok (.sipush 160, 3) := by decide +kernel
theorem dX9_init_57 : decode cX9_init 57 = .ok (.newarray .int, 2) := by decide +kernel
theorem dX9_init_59 : decode cX9_init 59 = .ok (.putfield 30, 3) := by decide +kernel
theorem dX9_init_62 : decode cX9_init 62 = .ok (.aload_n 0, 1) := by decide +kernel
theorem dX9_init_63 : decode cX9_init 63 = .ok (.sipush 160, 3) := by decide +kernel
theorem dX9_init_66 : decode cX9_init 66 = .ok (.newarray .int, 2) := by decide +kernel
theorem dX9_init_68 : decode cX9_init 68 = .ok (.putfield 33, 3) := by decide +kernel
theorem dX9_init_71 : decode cX9_init 71 = .ok (.aload_n 0, 1) := by decide +kernel
theorem dX9_init_72 : decode cX9_init 72 = .ok (.sipush 200, 3) := by decide +kernel
theorem dX9_init_75 : decode cX9_init 75 = .ok (.newarray .int, 2) := by decide +kernel
theorem dX9_init_77 : decode cX9_init 77 = .ok (.putfield 36, 3) := by decide +kernel
theorem dX9_init_80 : decode cX9_init 80 = .ok (.aload_n 0, 1) := by decide +kernel
theorem dX9_init_81 : decode cX9_init 81 = .ok (.sipush 200, 3) := by decide +kernel
theorem dX9_init_84 : decode cX9_init 84 = .ok (.newarray .int, 2) := by decide +kernel
theorem dX9_init_86 : decode cX9_init 86 = .ok (.putfield 39, 3) := by decide +kernel
theorem dX9_init_89 : decode cX9_init 89 = .ok (.aload_n 0, 1) := by decide +kernel
theorem dX9_init_90 : decode cX9_init 90 = .ok (.sipush 200, 3) := by decide +kernel
theorem dX9_init_93 : decode cX9_init 93 = .ok (.newarray .int, 2) := by decide +kernel
theorem dX9_init_95 : decode cX9_init 95 = .ok (.putfield 42, 3) := by decide +kernel
theorem dX9_init_98 : decode cX9_init 98 = .ok (.aload_n 0, 1) := by decide +kernel
theorem dX9_init_99 : decode cX9_init 99 = .ok (.sipush 160, 3) := by decide +kernel
theorem dX9_init_102 : decode cX9_init 102 = .ok (.newarray .int, 2) := by decide +kernel
theorem dX9_init_104 : decode cX9_init 104 = .ok (.putfield 45, 3) := by decide +kernel
theorem dX9_init_107 : decode cX9_init 107 = .ok (.aload_n 0, 1) := by decide +kernel
theorem dX9_init_108 : decode cX9_init 108 = .ok (.bipush 16, 2) := by decide +kernel
theorem dX9_init_110 : decode cX9_init 110 = .ok (.newarray .int, 2) := by decide +kernel
theorem dX9_init_112 : decode cX9_init 112 = .ok (.putfield 48, 3) := by decide +kernel
theorem dX9_init_115 : decode cX9_init 115 = .ok (.aload_n 0, 1) := by decide +kernel
theorem dX9_init_116 : decode cX9_init 116 = .ok (.bipush 16, 2) := by decide +kernel
theorem dX9_init_118 : decode cX9_init 118 = .ok (.newarray .int, 2) := by decide +kernel
theorem dX9_init_120 : decode cX9_init 120 = .ok (.putfield 51, 3) := by decide +kernel
theorem dX9_init_123 : decode cX9_init 123 = .ok (.aload_n 0, 1) := by decide +kernel
theorem dX9_init_124 : decode cX9_init 124 = .ok (.bipush 16, 2) := by decide +kernel
theorem dX9_init_126 : decode cX9_init 126 = .ok (.newarray .int, 2) := by decide +kernel
theorem dX9_init_128 : decode cX9_init 128 = .ok (.putfield 54, 3) := by decide +kernel
theorem dX9_init_131 : decode cX9_init 131 = .ok (.aload_n 0, 1) := by decide +kernel
theorem dX9_init_132 : decode cX9_init 132 = .ok (.bipush 16, 2) := by decide +kernel
theorem dX9_init_134 : decode cX9_init 134 = .ok (.newarray .boolean, 2) := by decide +kernel
theorem dX9_init_136 : decode cX9_init 136 = .ok (.putfield 57, 3) := by decide +kernel
theorem dX9_init_139 : decode cX9_init 139 = .ok (.aload_n 0, 1) := by decide +kernel
theorem dX9_init_140 : decode cX9_init 140 = .ok (.sipush 160, 3) := by decide +kernel
theorem dX9_init_143 : decode cX9_init 143 = .ok (.newarray .int, 2) := by decide +kernel
theorem dX9_init_145 : decode cX9_init 145 = .ok (.putfield 61, 3) := by decide +kernel
theorem dX9_init_148 : decode cX9_init 148 = .ok (.aload_n 0, 1) := by decide +kernel
theorem dX9_init_149 : decode cX9_init 149 = .ok (.bipush 64, 2) := by decide +kernel
theorem dX9_init_151 : decode cX9_init 151 = .ok (.newarray .int, 2) := by decide +kernel
theorem dX9_init_153 : decode cX9_init 153 = .ok (.putfield 64, 3) := by decide +kernel
theorem dX9_init_156 : decode cX9_init 156 = .ok (.aload_n 0, 1) := by decide +kernel
theorem dX9_init_157 : decode cX9_init 157 = .ok (.bipush 64, 2) := by decide +kernel
theorem dX9_init_159 : decode cX9_init 159 = .ok (.newarray .int, 2) := by decide +kernel
theorem dX9_init_161 : decode cX9_init 161 = .ok (.putfield 67, 3) := by decide +kernel
theorem dX9_init_164 : decode cX9_init 164 = .ok (.aload_n 0, 1) := by decide +kernel
theorem dX9_init_165 : decode cX9_init 165 = .ok (.bipush 64, 2) := by decide +kernel
theorem dX9_init_167 : decode cX9_init 167 = .ok (.newarray .int, 2) := by decide +kernel
theorem dX9_init_169 : decode cX9_init 169 = .ok (.putfield 70, 3) := by decide +kernel
theorem dX9_init_172 : decode cX9_init 172 = .ok (.aload_n 0, 1) := by decide +kernel
theorem dX9_init_173 : decode cX9_init 173 = .ok (.bipush 64, 2) := by decide +kernel
theorem dX9_init_175 : decode cX9_init 175 = .ok (.newarray .int, 2) := by decide +kernel
theorem dX9_init_177 : decode cX9_init 177 = .ok (.putfield 73, 3) := by decide +kernel
theorem dX9_init_180 : decode cX9_init 180 = .ok (.aload_n 0, 1) := by decide +kernel
theorem dX9_init_181 : decode cX9_init 181 = .ok (.bipush 64, 2) := by decide +kernel
theorem dX9_init_183 : decode cX9_init 183 = .ok (.newarray .int, 2) := by decide +kernel
theorem dX9_init_185 : decode cX9_init 185 = .ok (.putfield 76, 3) := by decide +kernel
theorem dX9_init_188 : decode cX9_init 188 = .ok (.aload_n 0, 1) := by decide +kernel
theorem dX9_init_189 : decode cX9_init 189 = .ok (.sipush 4096, 3) := by decide +kernel
theorem dX9_init_192 : decode cX9_init 192 = .ok (.newarray .int, 2) := by decide +kernel
theorem dX9_init_194 : decode cX9_init 194 = .ok (.putfield 79, 3) := by decide +kernel
theorem dX9_init_197 : decode cX9_init 197 = .ok (.aload_n 0, 1) := by decide +kernel
theorem dX9_init_198 : decode cX9_init 198 = .ok (.sipush 160, 3) := by decide +kernel
theorem dX9_init_201 : decode cX9_init 201 = .ok (.newarray .boolean, 2) := by decide +kernel
theorem dX9_init_203 : decode cX9_init 203 = .ok (.putfield 82, 3) := by decide +kernel
theorem dX9_init_206 : decode cX9_init 206 = .ok (.aload_n 0, 1) := by decide +kernel
theorem dX9_init_207 : decode cX9_init 207 = .ok (.bipush 16, 2) := by decide +kernel
theorem dX9_init_209 : decode cX9_init 209 = .ok (.newarray .boolean, 2) := by decide +kernel
theorem dX9_init_211 : decode cX9_init 211 = .ok (.putfield 85, 3) := by decide +kernel
theorem dX9_init_214 : decode cX9_init 214 = .ok (.aload_n 0, 1) := by decide +kernel
theorem dX9_init_215 : decode cX9_init 215 = .ok (.sipush 328, 3) := by decide +kernel
theorem dX9_init_218 : decode cX9_init 218 = .ok (.newarray .long, 2) := by decide +kernel
theorem dX9_init_220 : decode cX9_init 220 = .ok (.putfield 88, 3) := by decide +kernel
theorem dX9_init_223 : decode cX9_init 223 = .ok (.aload_n 0, 1) := by decide +kernel
theorem dX9_init_224 : decode cX9_init 224 = .ok (.sipush 320, 3) := by decide +kernel
theorem dX9_init_227 : decode cX9_init 227 = .ok (.newarray .int, 2) := by decide +kernel
theorem dX9_init_229 : decode cX9_init 229 = .ok (.putfield 92, 3) := by decide +kernel
theorem dX9_init_232 : decode cX9_init 232 = .ok (.aload_n 0, 1) := by decide +kernel
theorem dX9_init_233 : decode cX9_init 233 = .ok (.bipush 40, 2) := by decide +kernel
theorem dX9_init_235 : decode cX9_init 235 = .ok (.newarray .boolean, 2) := by decide +kernel
theorem dX9_init_237 : decode cX9_init 237 = .ok (.putfield 95, 3) := by decide +kernel
theorem dX9_init_240 : decode cX9_init 240 = .ok (.aload_n 0, 1) := by decide +kernel
theorem dX9_init_241 : decode cX9_init 241 = .ok (.bipush 40, 2) := by decide +kernel
theorem dX9_init_243 : decode cX9_init 243 = .ok (.newarray .int, 2) := by decide +kernel
theorem dX9_init_245 : decode cX9_init 245 = .ok (.putfield 98, 3) := by decide +kernel
theorem dX9_init_248 : decode cX9_init 248 = .ok (.aload_n 0, 1) := by decide +kernel
theorem dX9_init_249 : decode cX9_init 249 = .ok (.bipush 40, 2) := by decide +kernel
theorem dX9_init_251 : decode cX9_init 251 = .ok (.newarray .int, 2) := by decide +kernel
theorem dX9_init_253 : decode cX9_init 253 = .ok (.putfield 101, 3) := by decide +kernel
theorem dX9_init_256 : decode cX9_init 256 = .ok (.aload_n 0, 1) := by decide +kernel
theorem dX9_init_257 : decode cX9_init 257 = .ok (.iconst (-1), 1) := by decide +kernel
theorem dX9_init_258 : decode cX9_init 258 = .ok (.putfield 104, 3) := by decide +kernel
theorem dX9_init_261 : decode cX9_init 261 = .ok (.aload_n 0, 1) := by decide +kernel
theorem dX9_init_262 : decode cX9_init 262 = .ok (.sipush 320, 3) := by decide +kernel
theorem dX9_init_265 : decode cX9_init 265 = .ok (.newarray .int, 2) := by decide +kernel
theorem dX9_init_267 : decode cX9_init 267 = .ok (.putfield 107, 3) := by decide +kernel
theorem dX9_init_270 : decode cX9_init 270 = .ok (.aload_n 0, 1) := by decide +kernel
theorem dX9_init_271 : decode cX9_init 271 = .ok (.sipush 3584, 3) := by decide +kernel
theorem dX9_init_274 : decode cX9_init 274 = .ok (.newarray .int, 2) := by decide +kernel
theorem dX9_init_276 : decode cX9_init 276 = .ok (.putfield 110, 3) := by decide +kernel
theorem dX9_init_279 : decode cX9_init 279 = .ok (.aload_n 0, 1) := by decide +kernel
theorem dX9_init_280 : decode cX9_init 280 = .ok (.sipush 1800, 3) := by decide +kernel
theorem dX9_init_283 : decode cX9_init 283 = .ok (.newarray .int, 2) := by decide +kernel
theorem dX9_init_285 : decode cX9_init 285 = .ok (.putfield 113, 3) := by decide +kernel
theorem dX9_init_288 : decode cX9_init 288 = .ok (.aload_n 0, 1) := by decide +kernel
theorem dX9_init_289 : decode cX9_init 289 = .ok (.sipush 1800, 3) := by decide +kernel
theorem dX9_init_292 : decode cX9_init 292 = .ok (.newarray .int, 2) := by decide +kernel
theorem dX9_init_294 : decode cX9_init 294 = .ok (.putfield 116, 3) := by decide +kernel
theorem dX9_init_297 : decode cX9_init 297 = .ok (.aload_n 0, 1) := by decide +kernel
theorem dX9_init_298 : decode cX9_init 298 = .ok (.iconst (-1), 1) := by decide +kernel
theorem dX9_init_299 : decode cX9_init 299 = .ok (.putfield 119, 3) := by decide +kernel
theorem dX9_init_302 : decode cX9_init 302 = .ok (.aload_n 0, 1) := by decide +kernel
theorem dX9_init_303 : decode cX9_init 303 = .ok (.bipush 60, 2) := by decide +kernel
theorem dX9_init_305 : decode cX9_init 305 = .ok (.newarray .int, 2) := by decide +kernel
theorem dX9_init_307 : decode cX9_init 307 = .ok (.putfield 122, 3) := by decide +kernel
theorem dX9_init_310 : decode cX9_init 310 = .ok (.aload_n 0, 1) := by decide +kernel
theorem dX9_init_311 : decode cX9_init 311 = .ok (.bipush 32, 2) := by decide +kernel
theorem dX9_init_313 : decode cX9_init 313 = .ok (.newarray .char, 2) := by decide +kernel
theorem dX9_init_315 : decode cX9_init 315 = .ok (.putfield 125, 3) := by decide +kernel
theorem dX9_init_318 : decode cX9_init 318 = .ok (.return_, 1) := by decide +kernel
theorem dX9_thrown_0 : decode cX9_thrown 0 = .ok (.aload_n 0, 1) := by decide +kernel
theorem dX9_thrown_1 : decode cX9_thrown 1 = .ok (.getfield 128, 3) := by decide +kernel
theorem dX9_thrown_4 : decode cX9_thrown 4 = .ok (.ireturn, 1) := by decide +kernel
theorem dX9_raise_0 : decode cX9_raise 0 = .ok (.aload_n 0, 1) := by decide +kernel
theorem dX9_raise_1 : decode cX9_raise 1 = .ok (.iload_n 1, 1) := by decide +kernel
theorem dX9_raise_2 : decode cX9_raise 2 = .ok (.putfield 128, 3) := by decide +kernel
theorem dX9_raise_5 : decode cX9_raise 5 = .ok (.iconst 0, 1) := by decide +kernel
theorem dX9_raise_6 : decode cX9_raise 6 = .ok (.ireturn, 1) := by decide +kernel
theorem dX9_text_0 : decode cX9_text 0 = .ok (.aload_n 0, 1) := by decide +kernel
theorem dX9_text_1 : decode cX9_text 1 = .ok (.iconst 0, 1) := by decide +kernel
theorem dX9_text_2 : decode cX9_text 2 = .ok (.putfield 128, 3) := by decide +kernel
theorem dX9_text_5 : decode cX9_text 5 = .ok (.iconst 0, 1) := by decide +kernel
theorem dX9_text_6 : decode cX9_text 6 = .ok (.istore_n 3, 1) := by decide +kernel
theorem dX9_text_7 : decode cX9_text 7 = .ok (.lload_n 1, 1) := by decide +kernel
theorem dX9_text_8 : decode cX9_text 8 = .ok (.ldc2_w 131, 3) := by decide +kernel
theorem dX9_text_11 : decode cX9_text 11 = .ok (.land, 1) := by decide +kernel
theorem dX9_text_12 : decode cX9_text 12 = .ok (.lconst 0, 1) := by decide +kernel
theorem dX9_text_13 : decode cX9_text 13 = .ok (.lcmp, 1) := by decide +kernel
theorem dX9_text_14 : decode cX9_text 14 = .ok (.ifCond .eq 7, 3) := by decide +kernel
theorem dX9_text_17 : decode cX9_text 17 = .ok (.iconst 1, 1) := by decide +kernel
theorem dX9_text_18 : decode cX9_text 18 = .ok (.goto 4, 3) := by decide +kernel
theorem dX9_text_21 : decode cX9_text 21 = .ok (.iconst 0, 1) := by decide +kernel
theorem dX9_text_22 : decode cX9_text 22 = .ok (.istore 4, 2) := by decide +kernel
theorem dX9_text_24 : decode cX9_text 24 = .ok (.iload_n 3, 1) := by decide +kernel
theorem dX9_text_25 : decode cX9_text 25 = .ok (.bipush 8, 2) := by decide +kernel
theorem dX9_text_27 : decode cX9_text 27 = .ok (.if_icmp .ge 63, 3) := by decide +kernel
theorem dX9_text_30 : decode cX9_text 30 = .ok (.lload_n 1, 1) := by decide +kernel
theorem dX9_text_31 : decode cX9_text 31 = .ok (.bipush 8, 2) := by decide +kernel
theorem dX9_text_33 : decode cX9_text 33 = .ok (.iload_n 3, 1) := by decide +kernel
theorem dX9_text_34 : decode cX9_text 34 = .ok (.imul, 1) := by decide +kernel
theorem dX9_text_35 : decode cX9_text 35 = .ok (.lshr, 1) := by decide +kernel
theorem dX9_text_36 : decode cX9_text 36 = .ok (.ldc2_w 131, 3) := by decide +kernel
theorem dX9_text_39 : decode cX9_text 39 = .ok (.land, 1) := by decide +kernel
theorem dX9_text_40 : decode cX9_text 40 = .ok (.lconst 0, 1) := by decide +kernel
theorem dX9_text_41 : decode cX9_text 41 = .ok (.lcmp, 1) := by decide +kernel
theorem dX9_text_42 : decode cX9_text 42 = .ok (.ifCond .eq 48, 3) := by decide +kernel
theorem dX9_text_45 : decode cX9_text 45 = .ok (.lload_n 1, 1) := by decide +kernel
theorem dX9_text_46 : decode cX9_text 46 = .ok (.bipush 8, 2) := by decide +kernel
theorem dX9_text_48 : decode cX9_text 48 = .ok (.iload_n 3, 1) := by decide +kernel
theorem dX9_text_49 : decode cX9_text 49 = .ok (.imul, 1) := by decide +kernel
theorem dX9_text_50 : decode cX9_text 50 = .ok (.lshr, 1) := by decide +kernel
theorem dX9_text_51 : decode cX9_text 51 = .ok (.ldc2_w 131, 3) := by decide +kernel
theorem dX9_text_54 : decode cX9_text 54 = .ok (.land, 1) := by decide +kernel
theorem dX9_text_55 : decode cX9_text 55 = .ok (.l2i, 1) := by decide +kernel
theorem dX9_text_56 : decode cX9_text 56 = .ok (.istore 5, 2) := by decide +kernel
theorem dX9_text_58 : decode cX9_text 58 = .ok (.iload 4, 2) := by decide +kernel
theorem dX9_text_60 : decode cX9_text 60 = .ok (.ifCond .eq 21, 3) := by decide +kernel
theorem dX9_text_63 : decode cX9_text 63 = .ok (.iload 5, 2) := by decide +kernel
theorem dX9_text_65 : decode cX9_text 65 = .ok (.bipush 33, 2) := by decide +kernel
theorem dX9_text_67 : decode cX9_text 67 = .ok (.if_icmp .lt 14, 3) := by decide +kernel
theorem dX9_text_70 : decode cX9_text 70 = .ok (.iload 5, 2) := by decide +kernel
theorem dX9_text_72 : decode cX9_text 72 = .ok (.bipush 126, 2) := by decide +kernel
theorem dX9_text_74 : decode cX9_text 74 = .ok (.if_icmp .gt 7, 3) := by decide +kernel
theorem dX9_text_77 : decode cX9_text 77 = .ok (.iconst 1, 1) := by decide +kernel
theorem dX9_text_78 : decode cX9_text 78 = .ok (.goto 4, 3) := by decide +kernel
theorem dX9_text_81 : decode cX9_text 81 = .ok (.iconst 0, 1) := by decide +kernel
theorem dX9_text_82 : decode cX9_text 82 = .ok (.istore 4, 2) := by decide +kernel
theorem dX9_text_84 : decode cX9_text 84 = .ok (.iinc 3 1, 3) := by decide +kernel
theorem dX9_text_87 : decode cX9_text 87 = .ok (.goto (-63), 3) := by decide +kernel
theorem dX9_text_90 : decode cX9_text 90 = .ok (.iload 4, 2) := by decide +kernel
theorem dX9_text_92 : decode cX9_text 92 = .ok (.ifCond .eq 14, 3) := by decide +kernel
theorem dX9_text_95 : decode cX9_text 95 = .ok (.aload_n 0, 1) := by decide +kernel
theorem dX9_text_96 : decode cX9_text 96 = .ok (.getfield 133, 3) := by decide +kernel
theorem dX9_text_99 : decode cX9_text 99 = .ok (.iload_n 3, 1) := by decide +kernel
theorem dX9_text_100 : decode cX9_text 100 = .ok (.iadd, 1) := by decide +kernel
theorem dX9_text_101 : decode cX9_text 101 = .ok (.bipush 40, 2) := by decide +kernel
theorem dX9_text_103 : decode cX9_text 103 = .ok (.if_icmp .le 5, 3) := by decide +kernel
theorem dX9_text_106 : decode cX9_text 106 = .ok (.iconst (-1), 1) := by decide +kernel
theorem dX9_text_107 : decode cX9_text 107 = .ok (.ireturn, 1) := by decide +kernel
theorem dX9_text_108 : decode cX9_text 108 = .ok (.iconst 0, 1) := by decide +kernel
theorem dX9_text_109 : decode cX9_text 109 = .ok (.istore 5, 2) := by decide +kernel
theorem dX9_text_111 : decode cX9_text 111 = .ok (.iload 5, 2) := by decide +kernel
theorem dX9_text_113 : decode cX9_text 113 = .ok (.iload_n 3, 1) := by decide +kernel
theorem dX9_text_114 : decode cX9_text 114 = .ok (.if_icmp .ge 34, 3) := by decide +kernel
theorem dX9_text_117 : decode cX9_text 117 = .ok (.aload_n 0, 1) := by decide +kernel
theorem dX9_text_118 : decode cX9_text 118 = .ok (.getfield 7, 3) := by decide +kernel
theorem dX9_text_121 : decode cX9_text 121 = .ok (.aload_n 0, 1) := by decide +kernel
theorem dX9_text_122 : decode cX9_text 122 = .ok (.getfield 133, 3) := by decide +kernel
theorem dX9_text_125 : decode cX9_text 125 = .ok (.iload 5, 2) := by decide +kernel
theorem dX9_text_127 : decode cX9_text 127 = .ok (.iadd, 1) := by decide +kernel
theorem dX9_text_128 : decode cX9_text 128 = .ok (.lload_n 1, 1) := by decide +kernel
theorem dX9_text_129 : decode cX9_text 129 = .ok (.bipush 8, 2) := by decide +kernel
theorem dX9_text_131 : decode cX9_text 131 = .ok (.iload 5, 2) := by decide +kernel
theorem dX9_text_133 : decode cX9_text 133 = .ok (.imul, 1) := by decide +kernel
theorem dX9_text_134 : decode cX9_text 134 = .ok (.lshr, 1) := by decide +kernel
theorem dX9_text_135 : decode cX9_text 135 = .ok (.ldc2_w 131, 3) := by decide +kernel
theorem dX9_text_138 : decode cX9_text 138 = .ok (.land, 1) := by decide +kernel
theorem dX9_text_139 : decode cX9_text 139 = .ok (.l2i, 1) := by decide +kernel
theorem dX9_text_140 : decode cX9_text 140 = .ok (.i2c, 1) := by decide +kernel
theorem dX9_text_141 : decode cX9_text 141 = .ok (.castore, 1) := by decide +kernel
theorem dX9_text_142 : decode cX9_text 142 = .ok (.iinc 5 1, 3) := by decide +kernel
theorem dX9_text_145 : decode cX9_text 145 = .ok (.goto (-34), 3) := by decide +kernel
theorem dX9_text_148 : decode cX9_text 148 = .ok (.aload_n 0, 1) := by decide +kernel
theorem dX9_text_149 : decode cX9_text 149 = .ok (.dup, 1) := by decide +kernel
theorem dX9_text_150 : decode cX9_text 150 = .ok (.getfield 133, 3) := by decide +kernel
theorem dX9_text_153 : decode cX9_text 153 = .ok (.iload_n 3, 1) := by decide +kernel
theorem dX9_text_154 : decode cX9_text 154 = .ok (.iadd, 1) := by decide +kernel
theorem dX9_text_155 : decode cX9_text 155 = .ok (.putfield 133, 3) := by decide +kernel
theorem dX9_text_158 : decode cX9_text 158 = .ok (.aload_n 0, 1) := by decide +kernel
theorem dX9_text_159 : decode cX9_text 159 = .ok (.getfield 133, 3) := by decide +kernel
theorem dX9_text_162 : decode cX9_text 162 = .ok (.ireturn, 1) := by decide +kernel
theorem dX9_wipe_0 : decode cX9_wipe 0 = .ok (.aload_n 0, 1) := by decide +kernel
theorem dX9_wipe_1 : decode cX9_wipe 1 = .ok (.iconst 0, 1) := by decide +kernel
theorem dX9_wipe_2 : decode cX9_wipe 2 = .ok (.putfield 128, 3) := by decide +kernel
theorem dX9_wipe_5 : decode cX9_wipe 5 = .ok (.aload_n 0, 1) := by decide +kernel
theorem dX9_wipe_6 : decode cX9_wipe 6 = .ok (.iconst 0, 1) := by decide +kernel
theorem dX9_wipe_7 : decode cX9_wipe 7 = .ok (.putfield 133, 3) := by decide +kernel
theorem dX9_wipe_10 : decode cX9_wipe 10 = .ok (.return_, 1) := by decide +kernel
theorem dX9_fault_0 : decode cX9_fault 0 = .ok (.aload_n 0, 1) := by decide +kernel
theorem dX9_fault_1 : decode cX9_fault 1 = .ok (.iconst 0, 1) := by decide +kernel
theorem dX9_fault_2 : decode cX9_fault 2 = .ok (.putfield 128, 3) := by decide +kernel
theorem dX9_fault_5 : decode cX9_fault 5 = .ok (.aload_n 0, 1) := by decide +kernel
theorem dX9_fault_6 : decode cX9_fault 6 = .ok (.getfield 13, 3) := by decide +kernel
theorem dX9_fault_9 : decode cX9_fault 9 = .ok (.ireturn, 1) := by decide +kernel
theorem dX9_now_0 : decode cX9_now 0 = .ok (.aload_n 0, 1) := by decide +kernel
theorem dX9_now_1 : decode cX9_now 1 = .ok (.getfield 136, 3) := by decide +kernel
theorem dX9_now_4 : decode cX9_now 4 = .ok (.aload_n 0, 1) := by decide +kernel
theorem dX9_now_5 : decode cX9_now 5 = .ok (.getfield 133, 3) := by decide +kernel
theorem dX9_now_8 : decode cX9_now 8 = .ok (.if_icmp .ge 15, 3) := by decide +kernel
theorem dX9_now_11 : decode cX9_now 11 = .ok (.aload_n 0, 1) := by decide +kernel
theorem dX9_now_12 : decode cX9_now 12 = .ok (.getfield 7, 3) := by decide +kernel
theorem dX9_now_15 : decode cX9_now 15 = .ok (.aload_n 0, 1) := by decide +kernel
theorem dX9_now_16 : decode cX9_now 16 = .ok (.getfield 136, 3) := by decide +kernel
theorem dX9_now_19 : decode cX9_now 19 = .ok (.caload, 1) := by decide +kernel
theorem dX9_now_20 : decode cX9_now 20 = .ok (.goto 4, 3) := by decide +kernel
theorem dX9_now_23 : decode cX9_now 23 = .ok (.iconst 0, 1) := by decide +kernel
theorem dX9_now_24 : decode cX9_now 24 = .ok (.ireturn, 1) := by decide +kernel
theorem dX9_expect_0 : decode cX9_expect 0 = .ok (.aload_n 0, 1) := by decide +kernel
theorem dX9_expect_1 : decode cX9_expect 1 = .ok (.getfield 36, 3) := by decide +kernel
theorem dX9_expect_4 : decode cX9_expect 4 = .ok (.aload_n 0, 1) := by decide +kernel
theorem dX9_expect_5 : decode cX9_expect 5 = .ok (.getfield 139, 3) := by decide +kernel
theorem dX9_expect_8 : decode cX9_expect 8 = .ok (.iload_n 1, 1) := by decide +kernel
theorem dX9_expect_9 : decode cX9_expect 9 = .ok (.iastore, 1) := by decide +kernel
theorem dX9_expect_10 : decode cX9_expect 10 = .ok (.aload_n 0, 1) := by decide +kernel
theorem dX9_expect_11 : decode cX9_expect 11 = .ok (.getfield 39, 3) := by decide +kernel
theorem dX9_expect_14 : decode cX9_expect 14 = .ok (.aload_n 0, 1) := by decide +kernel
theorem dX9_expect_15 : decode cX9_expect 15 = .ok (.getfield 139, 3) := by decide +kernel
theorem dX9_expect_18 : decode cX9_expect 18 = .ok (.iload_n 2, 1) := by decide +kernel
theorem dX9_expect_19 : decode cX9_expect 19 = .ok (.iastore, 1) := by decide +kernel
theorem dX9_expect_20 : decode cX9_expect 20 = .ok (.aload_n 0, 1) := by decide +kernel
theorem dX9_expect_21 : decode cX9_expect 21 = .ok (.getfield 42, 3) := by decide +kernel
theorem dX9_expect_24 : decode cX9_expect 24 = .ok (.aload_n 0, 1) := by decide +kernel
theorem dX9_expect_25 : decode cX9_expect 25 = .ok (.getfield 139, 3) := by decide +kernel
theorem dX9_expect_28 : decode cX9_expect 28 = .ok (.iload_n 3, 1) := by decide +kernel
theorem dX9_expect_29 : decode cX9_expect 29 = .ok (.iastore, 1) := by decide +kernel
theorem dX9_expect_30 : decode cX9_expect 30 = .ok (.aload_n 0, 1) := by decide +kernel
theorem dX9_expect_31 : decode cX9_expect 31 = .ok (.dup, 1) := by decide +kernel
theorem dX9_expect_32 : decode cX9_expect 32 = .ok (.getfield 139, 3) := by decide +kernel
theorem dX9_expect_35 : decode cX9_expect 35 = .ok (.iconst 1, 1) := by decide +kernel
theorem dX9_expect_36 : decode cX9_expect 36 = .ok (.iadd, 1) := by decide +kernel
theorem dX9_expect_37 : decode cX9_expect 37 = .ok (.putfield 139, 3) := by decide +kernel
theorem dX9_expect_40 : decode cX9_expect 40 = .ok (.return_, 1) := by decide +kernel
theorem dX9_node_0 : decode cX9_node 0 = .ok (.aload_n 0, 1) := by decide +kernel
theorem dX9_node_1 : decode cX9_node 1 = .ok (.getfield 17, 3) := by decide +kernel
theorem dX9_node_4 : decode cX9_node 4 = .ok (.aload_n 0, 1) := by decide +kernel
theorem dX9_node_5 : decode cX9_node 5 = .ok (.getfield 142, 3) := by decide +kernel
theorem dX9_node_8 : decode cX9_node 8 = .ok (.iload_n 1, 1) := by decide +kernel
theorem dX9_node_9 : decode cX9_node 9 = .ok (.iastore, 1) := by decide +kernel
theorem dX9_node_10 : decode cX9_node 10 = .ok (.aload_n 0, 1) := by decide +kernel
theorem dX9_node_11 : decode cX9_node 11 = .ok (.getfield 21, 3) := by decide +kernel
theorem dX9_node_14 : decode cX9_node 14 = .ok (.aload_n 0, 1) := by decide +kernel
theorem dX9_node_15 : decode cX9_node 15 = .ok (.getfield 142, 3) := by decide +kernel
theorem dX9_node_18 : decode cX9_node 18 = .ok (.iconst (-1), 1) := by decide +kernel
theorem dX9_node_19 : decode cX9_node 19 = .ok (.iastore, 1) := by decide +kernel
theorem dX9_node_20 : decode cX9_node 20 = .ok (.aload_n 0, 1) := by decide +kernel
theorem dX9_node_21 : decode cX9_node 21 = .ok (.getfield 24, 3) := by decide +kernel
theorem dX9_node_24 : decode cX9_node 24 = .ok (.aload_n 0, 1) := by decide +kernel
theorem dX9_node_25 : decode cX9_node 25 = .ok (.getfield 142, 3) := by decide +kernel
theorem dX9_node_28 : decode cX9_node 28 = .ok (.iconst (-1), 1) := by decide +kernel
theorem dX9_node_29 : decode cX9_node 29 = .ok (.iastore, 1) := by decide +kernel
theorem dX9_node_30 : decode cX9_node 30 = .ok (.aload_n 0, 1) := by decide +kernel
theorem dX9_node_31 : decode cX9_node 31 = .ok (.getfield 27, 3) := by decide +kernel
theorem dX9_node_34 : decode cX9_node 34 = .ok (.aload_n 0, 1) := by decide +kernel
theorem dX9_node_35 : decode cX9_node 35 = .ok (.getfield 142, 3) := by decide +kernel
theorem dX9_node_38 : decode cX9_node 38 = .ok (.iconst (-1), 1) := by decide +kernel
theorem dX9_node_39 : decode cX9_node 39 = .ok (.iastore, 1) := by decide +kernel
theorem dX9_node_40 : decode cX9_node 40 = .ok (.aload_n 0, 1) := by decide +kernel
theorem dX9_node_41 : decode cX9_node 41 = .ok (.getfield 30, 3) := by decide +kernel
theorem dX9_node_44 : decode cX9_node 44 = .ok (.aload_n 0, 1) := by decide +kernel
theorem dX9_node_45 : decode cX9_node 45 = .ok (.getfield 142, 3) := by decide +kernel
theorem dX9_node_48 : decode cX9_node 48 = .ok (.iconst 1, 1) := by decide +kernel
theorem dX9_node_49 : decode cX9_node 49 = .ok (.iastore, 1) := by decide +kernel
theorem dX9_node_50 : decode cX9_node 50 = .ok (.aload_n 0, 1) := by decide +kernel
theorem dX9_node_51 : decode cX9_node 51 = .ok (.getfield 33, 3) := by decide +kernel
theorem dX9_node_54 : decode cX9_node 54 = .ok (.aload_n 0, 1) := by decide +kernel
theorem dX9_node_55 : decode cX9_node 55 = .ok (.getfield 142, 3) := by decide +kernel
theorem dX9_node_58 : decode cX9_node 58 = .ok (.iconst 1, 1) := by decide +kernel
theorem dX9_node_59 : decode cX9_node 59 = .ok (.iastore, 1) := by decide +kernel
theorem dX9_node_60 : decode cX9_node 60 = .ok (.aload_n 0, 1) := by decide +kernel
theorem dX9_node_61 : decode cX9_node 61 = .ok (.getfield 45, 3) := by decide +kernel
theorem dX9_node_64 : decode cX9_node 64 = .ok (.aload_n 0, 1) := by decide +kernel
theorem dX9_node_65 : decode cX9_node 65 = .ok (.getfield 142, 3) := by decide +kernel
theorem dX9_node_68 : decode cX9_node 68 = .ok (.iconst (-1), 1) := by decide +kernel
theorem dX9_node_69 : decode cX9_node 69 = .ok (.iastore, 1) := by decide +kernel
theorem dX9_node_70 : decode cX9_node 70 = .ok (.aload_n 0, 1) := by decide +kernel
theorem dX9_node_71 : decode cX9_node 71 = .ok (.dup, 1) := by decide +kernel
theorem dX9_node_72 : decode cX9_node 72 = .ok (.getfield 142, 3) := by decide +kernel
theorem dX9_node_75 : decode cX9_node 75 = .ok (.iconst 1, 1) := by decide +kernel
theorem dX9_node_76 : decode cX9_node 76 = .ok (.iadd, 1) := by decide +kernel
theorem dX9_node_77 : decode cX9_node 77 = .ok (.putfield 142, 3) := by decide +kernel
theorem dX9_node_80 : decode cX9_node 80 = .ok (.aload_n 0, 1) := by decide +kernel
theorem dX9_node_81 : decode cX9_node 81 = .ok (.getfield 142, 3) := by decide +kernel
theorem dX9_node_84 : decode cX9_node 84 = .ok (.iconst 1, 1) := by decide +kernel
theorem dX9_node_85 : decode cX9_node 85 = .ok (.isub, 1) := by decide +kernel
theorem dX9_node_86 : decode cX9_node 86 = .ok (.ireturn, 1) := by decide +kernel
theorem dX9_hang_0 : decode cX9_hang 0 = .ok (.iload_n 1, 1) := by decide +kernel
theorem dX9_hang_1 : decode cX9_hang 1 = .ok (.ifCond .ge 4, 3) := by decide +kernel
theorem dX9_hang_4 : decode cX9_hang 4 = .ok (.return_, 1) := by decide +kernel
theorem dX9_hang_5 : decode cX9_hang 5 = .ok (.aload_n 0, 1) := by decide +kernel
theorem dX9_hang_6 : decode cX9_hang 6 = .ok (.getfield 21, 3) := by decide +kernel
theorem dX9_hang_9 : decode cX9_hang 9 = .ok (.iload_n 1, 1) := by decide +kernel
theorem dX9_hang_10 : decode cX9_hang 10 = .ok (.iaload, 1) := by decide +kernel
theorem dX9_hang_11 : decode cX9_hang 11 = .ok (.ifCond .ge 13, 3) := by decide +kernel
theorem dX9_hang_14 : decode cX9_hang 14 = .ok (.aload_n 0, 1) := by decide +kernel
theorem dX9_hang_15 : decode cX9_hang 15 = .ok (.getfield 21, 3) := by decide +kernel
theorem dX9_hang_18 : decode cX9_hang 18 = .ok (.iload_n 1, 1) := by decide +kernel
theorem dX9_hang_19 : decode cX9_hang 19 = .ok (.iload_n 2, 1) := by decide +kernel
theorem dX9_hang_20 : decode cX9_hang 20 = .ok (.iastore, 1) := by decide +kernel
theorem dX9_hang_21 : decode cX9_hang 21 = .ok (.goto 10, 3) := by decide +kernel
theorem dX9_hang_24 : decode cX9_hang 24 = .ok (.aload_n 0, 1) := by decide +kernel
theorem dX9_hang_25 : decode cX9_hang 25 = .ok (.getfield 24, 3) := by decide +kernel
theorem dX9_hang_28 : decode cX9_hang 28 = .ok (.iload_n 1, 1) := by decide +kernel
theorem dX9_hang_29 : decode cX9_hang 29 = .ok (.iload_n 2, 1) := by decide +kernel
theorem dX9_hang_30 : decode cX9_hang 30 = .ok (.iastore, 1) := by decide +kernel
theorem dX9_hang_31 : decode cX9_hang 31 = .ok (.return_, 1) := by decide +kernel
theorem dX9_literal_0 : decode cX9_literal 0 = .ok (.iload_n 0, 1) := by decide +kernel
theorem dX9_literal_1 : decode cX9_literal 1 = .ok (.bipush 97, 2) := by decide +kernel
theorem dX9_literal_3 : decode cX9_literal 3 = .ok (.if_icmp .ne 7, 3) := by decide +kernel
theorem dX9_literal_6 : decode cX9_literal 6 = .ok (.iconst 1, 1) := by decide +kernel
theorem dX9_literal_7 : decode cX9_literal 7 = .ok (.goto 45, 3) := by decide +kernel
theorem dX9_literal_10 : decode cX9_literal 10 = .ok (.iload_n 0, 1) := by decide +kernel
theorem dX9_literal_11 : decode cX9_literal 11 = .ok (.bipush 98, 2) := by decide +kernel
theorem dX9_literal_13 : decode cX9_literal 13 = .ok (.if_icmp .ne 7, 3) := by decide +kernel
theorem dX9_literal_16 : decode cX9_literal 16 = .ok (.iconst 2, 1) := by decide +kernel
theorem dX9_literal_17 : decode cX9_literal 17 = .ok (.goto 35, 3) := by decide +kernel
theorem dX9_literal_20 : decode cX9_literal 20 = .ok (.iload_n 0, 1) := by decide +kernel
theorem dX9_literal_21 : decode cX9_literal 21 = .ok (.bipush 99, 2) := by decide +kernel
theorem dX9_literal_23 : decode cX9_literal 23 = .ok (.if_icmp .ne 7, 3) := by decide +kernel
theorem dX9_literal_26 : decode cX9_literal 26 = .ok (.iconst 4, 1) := by decide +kernel
theorem dX9_literal_27 : decode cX9_literal 27 = .ok (.goto 25, 3) := by decide +kernel
theorem dX9_literal_30 : decode cX9_literal 30 = .ok (.iload_n 0, 1) := by decide +kernel
theorem dX9_literal_31 : decode cX9_literal 31 = .ok (.bipush 48, 2) := by decide +kernel
theorem dX9_literal_33 : decode cX9_literal 33 = .ok (.if_icmp .ne 7, 3) := by decide +kernel
theorem dX9_literal_36 : decode cX9_literal 36 = .ok (.iconst 0, 1) := by decide +kernel
theorem dX9_literal_37 : decode cX9_literal 37 = .ok (.goto 15, 3) := by decide +kernel
theorem dX9_literal_40 : decode cX9_literal 40 = .ok (.iload_n 0, 1) := by decide +kernel
theorem dX9_literal_41 : decode cX9_literal 41 = .ok (.bipush 49, 2) := by decide +kernel
theorem dX9_literal_43 : decode cX9_literal 43 = .ok (.if_icmp .ne 8, 3) := by decide +kernel
theorem dX9_literal_46 : decode cX9_literal 46 = .ok (.bipush 8, 2) := by decide +kernel
theorem dX9_literal_48 : decode cX9_literal 48 = .ok (.goto 4, 3) := by decide +kernel
theorem dX9_literal_51 : decode cX9_literal 51 = .ok (.iconst (-1), 1) := by decide +kernel
theorem dX9_literal_52 : decode cX9_literal 52 = .ok (.ireturn, 1) := by decide +kernel
theorem dX9_read_0 : decode cX9_read 0 = .ok (.aload_n 0, 1) := by decide +kernel
theorem dX9_read_1 : decode cX9_read 1 = .ok (.iconst 0, 1) := by decide +kernel
theorem dX9_read_2 : decode cX9_read 2 = .ok (.putfield 142, 3) := by decide +kernel
theorem dX9_read_5 : decode cX9_read 5 = .ok (.aload_n 0, 1) := by decide +kernel
theorem dX9_read_6 : decode cX9_read 6 = .ok (.iconst 0, 1) := by decide +kernel
theorem dX9_read_7 : decode cX9_read 7 = .ok (.putfield 136, 3) := by decide +kernel
theorem dX9_read_10 : decode cX9_read 10 = .ok (.aload_n 0, 1) := by decide +kernel
theorem dX9_read_11 : decode cX9_read 11 = .ok (.iconst 0, 1) := by decide +kernel
theorem dX9_read_12 : decode cX9_read 12 = .ok (.putfield 139, 3) := by decide +kernel
theorem dX9_read_15 : decode cX9_read 15 = .ok (.aload_n 0, 1) := by decide +kernel
theorem dX9_read_16 : decode cX9_read 16 = .ok (.iconst 1, 1) := by decide +kernel
theorem dX9_read_17 : decode cX9_read 17 = .ok (.putfield 145, 3) := by decide +kernel
theorem dX9_read_20 : decode cX9_read 20 = .ok (.aload_n 0, 1) := by decide +kernel
theorem dX9_read_21 : decode cX9_read 21 = .ok (.iconst 1, 1) := by decide +kernel
theorem dX9_read_22 : decode cX9_read 22 = .ok (.iconst (-1), 1) := by decide +kernel
theorem dX9_read_23 : decode cX9_read 23 = .ok (.iconst 0, 1) := by decide +kernel
theorem dX9_read_24 : decode cX9_read 24 = .ok (.invokevirtual 149, 3) := by decide +kernel
theorem dX9_read_27 : decode cX9_read 27 = .ok (.aload_n 0, 1) := by decide +kernel
theorem dX9_read_28 : decode cX9_read 28 = .ok (.getfield 145, 3) := by decide +kernel
theorem dX9_read_31 : decode cX9_read 31 = .ok (.ifCond .eq 54, 3) := by decide +kernel
theorem dX9_read_34 : decode cX9_read 34 = .ok (.aload_n 0, 1) := by decide +kernel
theorem dX9_read_35 : decode cX9_read 35 = .ok (.getfield 139, 3) := by decide +kernel
theorem dX9_read_38 : decode cX9_read 38 = .ok (.ifCond .le 47, 3) := by decide +kernel
theorem dX9_read_41 : decode cX9_read 41 = .ok (.aload_n 0, 1) := by decide +kernel
theorem dX9_read_42 : decode cX9_read 42 = .ok (.dup, 1) := by decide +kernel
theorem dX9_read_43 : decode cX9_read 43 = .ok (.getfield 139, 3) := by decide +kernel
theorem dX9_read_46 : decode cX9_read 46 = .ok (.iconst 1, 1) := by decide +kernel
theorem dX9_read_47 : decode cX9_read 47 = .ok (.isub, 1) := by decide +kernel
theorem dX9_read_48 : decode cX9_read 48 = .ok (.putfield 139, 3) := by decide +kernel
theorem dX9_read_51 : decode cX9_read 51 = .ok (.aload_n 0, 1) := by decide +kernel
theorem dX9_read_52 : decode cX9_read 52 = .ok (.aload_n 0, 1) := by decide +kernel
theorem dX9_read_53 : decode cX9_read 53 = .ok (.getfield 36, 3) := by decide +kernel
theorem dX9_read_56 : decode cX9_read 56 = .ok (.aload_n 0, 1) := by decide +kernel
theorem dX9_read_57 : decode cX9_read 57 = .ok (.getfield 139, 3) := by decide +kernel
theorem dX9_read_60 : decode cX9_read 60 = .ok (.iaload, 1) := by decide +kernel
theorem dX9_read_61 : decode cX9_read 61 = .ok (.aload_n 0, 1) := by decide +kernel
theorem dX9_read_62 : decode cX9_read 62 = .ok (.getfield 39, 3) := by decide +kernel
theorem dX9_read_65 : decode cX9_read 65 = .ok (.aload_n 0, 1) := by decide +kernel
theorem dX9_read_66 : decode cX9_read 66 = .ok (.getfield 139, 3) := by decide +kernel
theorem dX9_read_69 : decode cX9_read 69 = .ok (.iaload, 1) := by decide +kernel
theorem dX9_read_70 : decode cX9_read 70 = .ok (.aload_n 0, 1) := by decide +kernel
theorem dX9_read_71 : decode cX9_read 71 = .ok (.getfield 42, 3) := by decide +kernel
theorem dX9_read_74 : decode cX9_read 74 = .ok (.aload_n 0, 1) := by decide +kernel
theorem dX9_read_75 : decode cX9_read 75 = .ok (.getfield 139, 3) := by decide +kernel
theorem dX9_read_78 : decode cX9_read 78 = .ok (.iaload, 1) := by decide +kernel
theorem dX9_read_79 : decode cX9_read 79 = .ok (.invokevirtual 153, 3) := by decide +kernel
theorem dX9_read_82 : decode cX9_read 82 = .ok (.goto (-55), 3) := by decide +kernel
theorem dX9_read_85 : decode cX9_read 85 = .ok (.aload_n 0, 1) := by decide +kernel
theorem dX9_read_86 : decode cX9_read 86 = .ok (.aload_n 0, 1) := by decide +kernel
theorem dX9_read_87 : decode cX9_read 87 = .ok (.getfield 145, 3) := by decide +kernel
theorem dX9_read_90 : decode cX9_read 90 = .ok (.ifCond .eq 18, 3) := by decide +kernel
theorem dX9_read_93 : decode cX9_read 93 = .ok (.aload_n 0, 1) := by decide +kernel
theorem dX9_read_94 : decode cX9_read 94 = .ok (.getfield 136, 3) := by decide +kernel
theorem dX9_read_97 : decode cX9_read 97 = .ok (.aload_n 0, 1) := by decide +kernel
theorem dX9_read_98 : decode cX9_read 98 = .ok (.getfield 133, 3) := by decide +kernel
theorem dX9_read_101 : decode cX9_read 101 = .ok (.if_icmp .ne 7, 3) := by decide +kernel
theorem dX9_read_104 : decode cX9_read 104 = .ok (.iconst 1, 1) := by decide +kernel
theorem dX9_read_105 : decode cX9_read 105 = .ok (.goto 4, 3) := by decide +kernel
theorem dX9_read_108 : decode cX9_read 108 = .ok (.iconst 0, 1) := by decide +kernel
theorem dX9_read_109 : decode cX9_read 109 = .ok (.putfield 145, 3) := by decide +kernel
theorem dX9_read_112 : decode cX9_read 112 = .ok (.return_, 1) := by decide +kernel
theorem dX9_take_0 : decode cX9_take 0 = .ok (.aload_n 0, 1) := by decide +kernel
theorem dX9_take_1 : decode cX9_take 1 = .ok (.invokevirtual 156, 3) := by decide +kernel
theorem dX9_take_4 : decode cX9_take 4 = .ok (.istore 4, 2) := by decide +kernel
theorem dX9_take_6 : decode cX9_take 6 = .ok (.iload_n 1, 1) := by decide +kernel
theorem dX9_take_7 : decode cX9_take 7 = .ok (.iconst 1, 1) := by decide +kernel
theorem dX9_take_8 : decode cX9_take 8 = .ok (.if_icmp .eq 8, 3) := by decide +kernel
theorem dX9_take_11 : decode cX9_take 11 = .ok (.iload_n 1, 1) := by decide +kernel
theorem dX9_take_12 : decode cX9_take 12 = .ok (.iconst 2, 1) := by decide +kernel
theorem dX9_take_13 : decode cX9_take 13 = .ok (.if_icmp .ne 15, 3) := by decide +kernel
theorem dX9_take_16 : decode cX9_take 16 = .ok (.aload_n 0, 1) := by decide +kernel
theorem dX9_take_17 : decode cX9_take 17 = .ok (.iload_n 1, 1) := by decide +kernel
theorem dX9_take_18 : decode cX9_take 18 = .ok (.iload_n 2, 1) := by decide +kernel
theorem dX9_take_19 : decode cX9_take 19 = .ok (.iload_n 3, 1) := by decide +kernel
theorem dX9_take_20 : decode cX9_take 20 = .ok (.iload 4, 2) := by decide +kernel
theorem dX9_take_22 : decode cX9_take 22 = .ok (.invokevirtual 160, 3) := by decide +kernel
theorem dX9_take_25 : decode cX9_take 25 = .ok (.goto 355, 3) := by decide +kernel
theorem dX9_take_28 : decode cX9_take 28 = .ok (.iload_n 1, 1) := by decide +kernel
theorem dX9_take_29 : decode cX9_take 29 = .ok (.iconst 3, 1) := by decide +kernel
theorem dX9_take_30 : decode cX9_take 30 = .ok (.if_icmp .ne 42, 3) := by decide +kernel
theorem dX9_take_33 : decode cX9_take 33 = .ok (.aload_n 0, 1) := by decide +kernel
theorem dX9_take_34 : decode cX9_take 34 = .ok (.iload 4, 2) := by decide +kernel
theorem dX9_take_36 : decode cX9_take 36 = .ok (.iload_n 2, 1) := by decide +kernel
theorem dX9_take_37 : decode cX9_take 37 = .ok (.if_icmp .ne 7, 3) := by decide +kernel
theorem dX9_take_40 : decode cX9_take 40 = .ok (.iconst 1, 1) := by decide +kernel
theorem dX9_take_41 : decode cX9_take 41 = .ok (.goto 4, 3) := by decide +kernel
theorem dX9_take_44 : decode cX9_take 44 = .ok (.iconst 0, 1) := by decide +kernel
theorem dX9_take_45 : decode cX9_take 45 = .ok (.putfield 145, 3) := by decide +kernel
theorem dX9_take_48 : decode cX9_take 48 = .ok (.aload_n 0, 1) := by decide +kernel
theorem dX9_take_49 : decode cX9_take 49 = .ok (.dup, 1) := by decide +kernel
theorem dX9_take_50 : decode cX9_take 50 = .ok (.getfield 136, 3) := by decide +kernel
theorem dX9_take_53 : decode cX9_take 53 = .ok (.aload_n 0, 1) := by decide +kernel
theorem dX9_take_54 : decode cX9_take 54 = .ok (.getfield 145, 3) := by decide +kernel
theorem dX9_take_57 : decode cX9_take 57 = .ok (.ifCond .eq 7, 3) := by decide +kernel
theorem dX9_take_60 : decode cX9_take 60 = .ok (.iconst 1, 1) := by decide +kernel
theorem dX9_take_61 : decode cX9_take 61 = .ok (.goto 4, 3) := by decide +kernel
theorem dX9_take_64 : decode cX9_take 64 = .ok (.iconst 0, 1) := by decide +kernel
theorem dX9_take_65 : decode cX9_take 65 = .ok (.iadd, 1) := by decide +kernel
theorem dX9_take_66 : decode cX9_take 66 = .ok (.putfield 136, 3) := by decide +kernel
theorem dX9_take_69 : decode cX9_take 69 = .ok (.goto 311, 3) := by decide +kernel
theorem dX9_take_72 : decode cX9_take 72 = .ok (.iload_n 1, 1) := by decide +kernel
theorem dX9_take_73 : decode cX9_take 73 = .ok (.iconst 4, 1) := by decide +kernel
theorem dX9_take_74 : decode cX9_take 74 = .ok (.if_icmp .eq 8, 3) := by decide +kernel
theorem dX9_take_77 : decode cX9_take 77 = .ok (.iload_n 1, 1) := by decide +kernel
theorem dX9_take_78 : decode cX9_take 78 = .ok (.iconst 5, 1) := by decide +kernel
theorem dX9_take_79 : decode cX9_take 79 = .ok (.if_icmp .ne 98, 3) := by decide +kernel
theorem dX9_take_82 : decode cX9_take 82 = .ok (.aload_n 0, 1) := by decide +kernel
theorem dX9_take_83 : decode cX9_take 83 = .ok (.iload 4, 2) := by decide +kernel
theorem dX9_take_85 : decode cX9_take 85 = .ok (.bipush 38, 2) := by decide +kernel
theorem dX9_take_87 : decode cX9_take 87 = .ok (.if_icmp .eq 22, 3) := by decide +kernel
theorem dX9_take_90 : decode cX9_take 90 = .ok (.iload 4, 2) := by decide +kernel
theorem dX9_take_92 : decode cX9_take 92 = .ok (.bipush 124, 2) := by decide +kernel
theorem dX9_take_94 : decode cX9_take 94 = .ok (.if_icmp .eq 15, 3) := by decide +kernel
theorem dX9_take_97 : decode cX9_take 97 = .ok (.iload 4, 2) := by decide +kernel
theorem dX9_take_99 : decode cX9_take 99 = .ok (.bipush 87, 2) := by decide +kernel
theorem dX9_take_101 : decode cX9_take 101 = .ok (.if_icmp .ne 12, 3) := by decide +kernel
theorem dX9_take_104 : decode cX9_take 104 = .ok (.iload_n 1, 1) := by decide +kernel
theorem dX9_take_105 : decode cX9_take 105 = .ok (.iconst 4, 1) := by decide +kernel
theorem dX9_take_106 : decode cX9_take 106 = .ok (.if_icmp .ne 7, 3) := by decide +kernel
theorem dX9_take_109 : decode cX9_take 109 = .ok (.iconst 1, 1) := by decide +kernel
theorem dX9_take_110 : decode cX9_take 110 = .ok (.goto 4, 3) := by decide +kernel
theorem dX9_take_113 : decode cX9_take 113 = .ok (.iconst 0, 1) := by decide +kernel
theorem dX9_take_114 : decode cX9_take 114 = .ok (.putfield 145, 3) := by decide +kernel
theorem dX9_take_117 : decode cX9_take 117 = .ok (.aload_n 0, 1) := by decide +kernel
theorem dX9_take_118 : decode cX9_take 118 = .ok (.getfield 145, 3) := by decide +kernel
theorem dX9_take_121 : decode cX9_take 121 = .ok (.ifCond .eq 32, 3) := by decide +kernel
theorem dX9_take_124 : decode cX9_take 124 = .ok (.aload_n 0, 1) := by decide +kernel
theorem dX9_take_125 : decode cX9_take 125 = .ok (.getfield 17, 3) := by decide +kernel
theorem dX9_take_128 : decode cX9_take 128 = .ok (.iload_n 2, 1) := by decide +kernel
theorem dX9_take_129 : decode cX9_take 129 = .ok (.iload 4, 2) := by decide +kernel
theorem dX9_take_131 : decode cX9_take 131 = .ok (.bipush 38, 2) := by decide +kernel
theorem dX9_take_133 : decode cX9_take 133 = .ok (.if_icmp .ne 7, 3) := by decide +kernel
theorem dX9_take_136 : decode cX9_take 136 = .ok (.iconst 3, 1) := by decide +kernel
theorem dX9_take_137 : decode cX9_take 137 = .ok (.goto 15, 3) := by decide +kernel
theorem dX9_take_140 : decode cX9_take 140 = .ok (.iload 4, 2) := by decide +kernel
theorem dX9_take_142 : decode cX9_take 142 = .ok (.bipush 124, 2) := by decide +kernel
theorem dX9_take_144 : decode cX9_take 144 = .ok (.if_icmp .ne 7, 3) := by decide +kernel
theorem dX9_take_147 : decode cX9_take 147 = .ok (.iconst 4, 1) := by decide +kernel
theorem dX9_take_148 : decode cX9_take 148 = .ok (.goto 4, 3) := by decide +kernel
theorem dX9_take_151 : decode cX9_take 151 = .ok (.iconst 5, 1) := by decide +kernel
theorem dX9_take_152 : decode cX9_take 152 = .ok (.iastore, 1) := by decide +kernel
theorem dX9_take_153 : decode cX9_take 153 = .ok (.aload_n 0, 1) := by decide +kernel
theorem dX9_take_154 : decode cX9_take 154 = .ok (.dup, 1) := by decide +kernel
theorem dX9_take_155 : decode cX9_take 155 = .ok (.getfield 136, 3) := by decide +kernel
theorem dX9_take_158 : decode cX9_take 158 = .ok (.aload_n 0, 1) := by decide +kernel
theorem dX9_take_159 : decode cX9_take 159 = .ok (.getfield 145, 3) := by decide +kernel
theorem dX9_take_162 : decode cX9_take 162 = .ok (.ifCond .eq 7, 3) := by decide +kernel
theorem dX9_take_165 : decode cX9_take 165 = .ok (.iconst 1, 1) := by decide +kernel
theorem dX9_take_166 : decode cX9_take 166 = .ok (.goto 4, 3) := by decide +kernel
theorem dX9_take_169 : decode cX9_take 169 = .ok (.iconst 0, 1) := by decide +kernel
theorem dX9_take_170 : decode cX9_take 170 = .ok (.iadd, 1) := by decide +kernel
theorem dX9_take_171 : decode cX9_take 171 = .ok (.putfield 136, 3) := by decide +kernel
theorem dX9_take_174 : decode cX9_take 174 = .ok (.goto 206, 3) := by decide +kernel
theorem dX9_take_177 : decode cX9_take 177 = .ok (.iload_n 1, 1) := by decide +kernel
theorem dX9_take_178 : decode cX9_take 178 = .ok (.bipush 6, 2) := by decide +kernel
theorem dX9_take_180 : decode cX9_take 180 = .ok (.if_icmp .ne 70, 3) := by decide +kernel
theorem dX9_take_183 : decode cX9_take 183 = .ok (.aload_n 0, 1) := by decide +kernel
theorem dX9_take_184 : decode cX9_take 184 = .ok (.iload 4, 2) := by decide +kernel
theorem dX9_take_186 : decode cX9_take 186 = .ok (.bipush 62, 2) := by decide +kernel
theorem dX9_take_188 : decode cX9_take 188 = .ok (.if_icmp .eq 10, 3) := by decide +kernel
theorem dX9_take_191 : decode cX9_take 191 = .ok (.iload 4, 2) := by decide +kernel
theorem dX9_take_193 : decode cX9_take 193 = .ok (.bipush 58, 2) := by decide +kernel
theorem dX9_take_195 : decode cX9_take 195 = .ok (.if_icmp .ne 7, 3) := by decide +kernel
theorem dX9_take_198 : decode cX9_take 198 = .ok (.iconst 1, 1) := by decide +kernel
theorem dX9_take_199 : decode cX9_take 199 = .ok (.goto 4, 3) := by decide +kernel
theorem dX9_take_202 : decode cX9_take 202 = .ok (.iconst 0, 1) := by decide +kernel
theorem dX9_take_203 : decode cX9_take 203 = .ok (.putfield 145, 3) := by decide +kernel
theorem dX9_take_206 : decode cX9_take 206 = .ok (.aload_n 0, 1) := by decide +kernel
theorem dX9_take_207 : decode cX9_take 207 = .ok (.getfield 17, 3) := by decide +kernel
theorem dX9_take_210 : decode cX9_take 210 = .ok (.iload_n 2, 1) := by decide +kernel
theorem dX9_take_211 : decode cX9_take 211 = .ok (.iload 4, 2) := by decide +kernel
theorem dX9_take_213 : decode cX9_take 213 = .ok (.bipush 62, 2) := by decide +kernel
theorem dX9_take_215 : decode cX9_take 215 = .ok (.if_icmp .ne 8, 3) := by decide +kernel
theorem dX9_take_218 : decode cX9_take 218 = .ok (.bipush 8, 2) := by decide +kernel
theorem dX9_take_220 : decode cX9_take 220 = .ok (.goto 5, 3) := by decide +kernel
theorem dX9_take_223 : decode cX9_take 223 = .ok (.bipush 9, 2) := by decide +kernel
theorem dX9_take_225 : decode cX9_take 225 = .ok (.iastore, 1) := by decide +kernel
theorem dX9_take_226 : decode cX9_take 226 = .ok (.aload_n 0, 1) := by decide +kernel
theorem dX9_take_227 : decode cX9_take 227 = .ok (.dup, 1) := by decide +kernel
theorem dX9_take_228 : decode cX9_take 228 = .ok (.getfield 136, 3) := by decide +kernel
theorem dX9_take_231 : decode cX9_take 231 = .ok (.aload_n 0, 1) := by decide +kernel
theorem dX9_take_232 : decode cX9_take 232 = .ok (.getfield 145, 3) := by decide +kernel
theorem dX9_take_235 : decode cX9_take 235 = .ok (.ifCond .eq 7, 3) := by decide +kernel
theorem dX9_take_238 : decode cX9_take 238 = .ok (.iconst 1, 1) := by decide +kernel
theorem dX9_take_239 : decode cX9_take 239 = .ok (.goto 4, 3) := by decide +kernel
theorem dX9_take_242 : decode cX9_take 242 = .ok (.iconst 0, 1) := by decide +kernel
theorem dX9_take_243 : decode cX9_take 243 = .ok (.iadd, 1) := by decide +kernel
theorem dX9_take_244 : decode cX9_take 244 = .ok (.putfield 136, 3) := by decide +kernel
theorem dX9_take_247 : decode cX9_take 247 = .ok (.goto 133, 3) := by decide +kernel
theorem dX9_take_250 : decode cX9_take 250 = .ok (.iload_n 1, 1) := by decide +kernel
theorem dX9_take_251 : decode cX9_take 251 = .ok (.bipush 7, 2) := by decide +kernel
theorem dX9_take_253 : decode cX9_take 253 = .ok (.if_icmp .ne 14, 3) := by decide +kernel
theorem dX9_take_256 : decode cX9_take 256 = .ok (.aload_n 0, 1) := by decide +kernel
theorem dX9_take_257 : decode cX9_take 257 = .ok (.iload_n 2, 1) := by decide +kernel
theorem dX9_take_258 : decode cX9_take 258 = .ok (.iload_n 3, 1) := by decide +kernel
theorem dX9_take_259 : decode cX9_take 259 = .ok (.iload 4, 2) := by decide +kernel
theorem dX9_take_261 : decode cX9_take 261 = .ok (.invokevirtual 164, 3) := by decide +kernel
theorem dX9_take_264 : decode cX9_take 264 = .ok (.goto 116, 3) := by decide +kernel
theorem dX9_take_267 : decode cX9_take 267 = .ok (.iload_n 1, 1) := by decide +kernel
theorem dX9_take_268 : decode cX9_take 268 = .ok (.bipush 8, 2) := by decide +kernel
theorem dX9_take_270 : decode cX9_take 270 = .ok (.if_icmp .ne 13, 3) := by decide +kernel
theorem dX9_take_273 : decode cX9_take 273 = .ok (.aload_n 0, 1) := by decide +kernel
theorem dX9_take_274 : decode cX9_take 274 = .ok (.iload_n 2, 1) := by decide +kernel
theorem dX9_take_275 : decode cX9_take 275 = .ok (.iload 4, 2) := by decide +kernel
theorem dX9_take_277 : decode cX9_take 277 = .ok (.invokevirtual 168, 3) := by decide +kernel
theorem dX9_take_280 : decode cX9_take 280 = .ok (.goto 100, 3) := by decide +kernel
theorem dX9_take_283 : decode cX9_take 283 = .ok (.iload_n 1, 1) := by decide +kernel
theorem dX9_take_284 : decode cX9_take 284 = .ok (.bipush 9, 2) := by decide +kernel
theorem dX9_take_286 : decode cX9_take 286 = .ok (.if_icmp .ne 31, 3) := by decide +kernel
theorem dX9_take_289 : decode cX9_take 289 = .ok (.iload 4, 2) := by decide +kernel
theorem dX9_take_291 : decode cX9_take 291 = .ok (.bipush 44, 2) := by decide +kernel
theorem dX9_take_293 : decode cX9_take 293 = .ok (.if_icmp .ne 24, 3) := by decide +kernel
theorem dX9_take_296 : decode cX9_take 296 = .ok (.aload_n 0, 1) := by decide +kernel
theorem dX9_take_297 : decode cX9_take 297 = .ok (.dup, 1) := by decide +kernel
theorem dX9_take_298 : decode cX9_take 298 = .ok (.getfield 136, 3) := by decide +kernel
theorem dX9_take_301 : decode cX9_take 301 = .ok (.iconst 1, 1) := by decide +kernel
theorem dX9_take_302 : decode cX9_take 302 = .ok (.iadd, 1) := by decide +kernel
theorem dX9_take_303 : decode cX9_take 303 = .ok (.putfield 136, 3) := by decide +kernel
theorem dX9_take_306 : decode cX9_take 306 = .ok (.aload_n 0, 1) := by decide +kernel
theorem dX9_take_307 : decode cX9_take 307 = .ok (.bipush 7, 2) := by decide +kernel
theorem dX9_take_309 : decode cX9_take 309 = .ok (.iload_n 2, 1) := by decide +kernel
theorem dX9_take_310 : decode cX9_take 310 = .ok (.iload_n 3, 1) := by decide +kernel
theorem dX9_take_311 : decode cX9_take 311 = .ok (.invokevirtual 149, 3) := by decide +kernel
theorem dX9_take_314 : decode cX9_take 314 = .ok (.goto 66, 3) := by decide +kernel
theorem dX9_take_317 : decode cX9_take 317 = .ok (.iload_n 1, 1) := by decide +kernel
theorem dX9_take_318 : decode cX9_take 318 = .ok (.bipush 10, 2) := by decide +kernel
theorem dX9_take_320 : decode cX9_take 320 = .ok (.if_icmp .ne 60, 3) := by decide +kernel
theorem dX9_take_323 : decode cX9_take 323 = .ok (.aload_n 0, 1) := by decide +kernel
theorem dX9_take_324 : decode cX9_take 324 = .ok (.iload 4, 2) := by decide +kernel
theorem dX9_take_326 : decode cX9_take 326 = .ok (.bipush 47, 2) := by decide +kernel
theorem dX9_take_328 : decode cX9_take 328 = .ok (.if_icmp .eq 10, 3) := by decide +kernel
theorem dX9_take_331 : decode cX9_take 331 = .ok (.iload 4, 2) := by decide +kernel
theorem dX9_take_333 : decode cX9_take 333 = .ok (.bipush 93, 2) := by decide +kernel
theorem dX9_take_335 : decode cX9_take 335 = .ok (.if_icmp .ne 7, 3) := by decide +kernel
theorem dX9_take_338 : decode cX9_take 338 = .ok (.iconst 1, 1) := by decide +kernel
theorem dX9_take_339 : decode cX9_take 339 = .ok (.goto 4, 3) := by decide +kernel
theorem dX9_take_342 : decode cX9_take 342 = .ok (.iconst 0, 1) := by decide +kernel
theorem dX9_take_343 : decode cX9_take 343 = .ok (.putfield 145, 3) := by decide +kernel
theorem dX9_take_346 : decode cX9_take 346 = .ok (.aload_n 0, 1) := by decide +kernel
theorem dX9_take_347 : decode cX9_take 347 = .ok (.dup, 1) := by decide +kernel
theorem dX9_take_348 : decode cX9_take 348 = .ok (.getfield 136, 3) := by decide +kernel
theorem dX9_take_351 : decode cX9_take 351 = .ok (.aload_n 0, 1) := by decide +kernel
theorem dX9_take_352 : decode cX9_take 352 = .ok (.getfield 145, 3) := by decide +kernel
theorem dX9_take_355 : decode cX9_take 355 = .ok (.ifCond .eq 7, 3) := by decide +kernel
theorem dX9_take_358 : decode cX9_take 358 = .ok (.iconst 1, 1) := by decide +kernel
theorem dX9_take_359 : decode cX9_take 359 = .ok (.goto 4, 3) := by decide +kernel
theorem dX9_take_362 : decode cX9_take 362 = .ok (.iconst 0, 1) := by decide +kernel
theorem dX9_take_363 : decode cX9_take 363 = .ok (.iadd, 1) := by decide +kernel
theorem dX9_take_364 : decode cX9_take 364 = .ok (.putfield 136, 3) := by decide +kernel
theorem dX9_take_367 : decode cX9_take 367 = .ok (.iload 4, 2) := by decide +kernel
theorem dX9_take_369 : decode cX9_take 369 = .ok (.bipush 47, 2) := by decide +kernel
theorem dX9_take_371 : decode cX9_take 371 = .ok (.if_icmp .ne 9, 3) := by decide +kernel
theorem dX9_take_374 : decode cX9_take 374 = .ok (.aload_n 0, 1) := by decide +kernel
theorem dX9_take_375 : decode cX9_take 375 = .ok (.iload_n 2, 1) := by decide +kernel
theorem dX9_take_376 : decode cX9_take 376 = .ok (.iload_n 3, 1) := by decide +kernel
theorem dX9_take_377 : decode cX9_take 377 = .ok (.invokevirtual 172, 3) := by decide +kernel
theorem dX9_take_380 : decode cX9_take 380 = .ok (.return_, 1) := by decide +kernel
theorem dX9_sprout_0 : decode cX9_sprout 0 = .ok (.iload_n 1, 1) := by decide +kernel
theorem dX9_sprout_1 : decode cX9_sprout 1 = .ok (.iconst 1, 1) := by decide +kernel
theorem dX9_sprout_2 : decode cX9_sprout 2 = .ok (.if_icmp .ne 7, 3) := by decide +kernel
theorem dX9_sprout_5 : decode cX9_sprout 5 = .ok (.iconst 1, 1) := by decide +kernel
theorem dX9_sprout_6 : decode cX9_sprout 6 = .ok (.goto 4, 3) := by decide +kernel
theorem dX9_sprout_9 : decode cX9_sprout 9 = .ok (.iconst 0, 1) := by decide +kernel
theorem dX9_sprout_10 : decode cX9_sprout 10 = .ok (.istore 5, 2) := by decide +kernel
theorem dX9_sprout_12 : decode cX9_sprout 12 = .ok (.iload 4, 2) := by decide +kernel
theorem dX9_sprout_14 : decode cX9_sprout 14 = .ok (.invokestatic 176, 3) := by decide +kernel
theorem dX9_sprout_17 : decode cX9_sprout 17 = .ok (.istore 6, 2) := by decide +kernel
theorem dX9_sprout_19 : decode cX9_sprout 19 = .ok (.aload_n 0, 1) := by decide +kernel
theorem dX9_sprout_20 : decode cX9_sprout 20 = .ok (.iload_n 3, 1) := by decide +kernel
theorem dX9_sprout_21 : decode cX9_sprout 21 = .ok (.bipush 12, 2) := by decide +kernel
theorem dX9_sprout_23 : decode cX9_sprout 23 = .ok (.if_icmp .gt 52, 3) := by decide +kernel
theorem dX9_sprout_26 : decode cX9_sprout 26 = .ok (.iload 6, 2) := by decide +kernel
theorem dX9_sprout_28 : decode cX9_sprout 28 = .ok (.ifCond .ge 43, 3) := by decide +kernel
theorem dX9_sprout_31 : decode cX9_sprout 31 = .ok (.iload 4, 2) := by decide +kernel
theorem dX9_sprout_33 : decode cX9_sprout 33 = .ok (.bipush 33, 2) := by decide +kernel
theorem dX9_sprout_35 : decode cX9_sprout 35 = .ok (.if_icmp .eq 36, 3) := by decide +kernel
theorem dX9_sprout_38 : decode cX9_sprout 38 = .ok (.iload 4, 2) := by decide +kernel
theorem dX9_sprout_40 : decode cX9_sprout 40 = .ok (.bipush 40, 2) := by decide +kernel
theorem dX9_sprout_42 : decode cX9_sprout 42 = .ok (.if_icmp .eq 29, 3) := by decide +kernel
theorem dX9_sprout_45 : decode cX9_sprout 45 = .ok (.iload 5, 2) := by decide +kernel
theorem dX9_sprout_47 : decode cX9_sprout 47 = .ok (.ifCond .eq 28, 3) := by decide +kernel
theorem dX9_sprout_50 : decode cX9_sprout 50 = .ok (.iload 4, 2) := by decide +kernel
theorem dX9_sprout_52 : decode cX9_sprout 52 = .ok (.bipush 71, 2) := by decide +kernel
theorem dX9_sprout_54 : decode cX9_sprout 54 = .ok (.if_icmp .eq 17, 3) := by decide +kernel
theorem dX9_sprout_57 : decode cX9_sprout 57 = .ok (.iload 4, 2) := by decide +kernel
theorem dX9_sprout_59 : decode cX9_sprout 59 = .ok (.bipush 88, 2) := by decide +kernel
theorem dX9_sprout_61 : decode cX9_sprout 61 = .ok (.if_icmp .eq 10, 3) := by decide +kernel
theorem dX9_sprout_64 : decode cX9_sprout 64 = .ok (.iload 4, 2) := by decide +kernel
theorem dX9_sprout_66 : decode cX9_sprout 66 = .ok (.bipush 123, 2) := by decide +kernel
theorem dX9_sprout_68 : decode cX9_sprout 68 = .ok (.if_icmp .ne 7, 3) := by decide +kernel
theorem dX9_sprout_71 : decode cX9_sprout 71 = .ok (.iconst 1, 1) := by decide +kernel
theorem dX9_sprout_72 : decode cX9_sprout 72 = .ok (.goto 4, 3) := by decide +kernel
theorem dX9_sprout_75 : decode cX9_sprout 75 = .ok (.iconst 0, 1) := by decide +kernel
theorem dX9_sprout_76 : decode cX9_sprout 76 = .ok (.putfield 145, 3) := by decide +kernel
theorem dX9_sprout_79 : decode cX9_sprout 79 = .ok (.aload_n 0, 1) := by decide +kernel
theorem dX9_sprout_80 : decode cX9_sprout 80 = .ok (.getfield 145, 3) := by decide +kernel
theorem dX9_sprout_83 : decode cX9_sprout 83 = .ok (.ifCond .ne 4, 3) := by decide +kernel
theorem dX9_sprout_86 : decode cX9_sprout 86 = .ok (.return_, 1) := by decide +kernel
theorem dX9_sprout_87 : decode cX9_sprout 87 = .ok (.aload_n 0, 1) := by decide +kernel
theorem dX9_sprout_88 : decode cX9_sprout 88 = .ok (.dup, 1) := by decide +kernel
theorem dX9_sprout_89 : decode cX9_sprout 89 = .ok (.getfield 136, 3) := by decide +kernel
theorem dX9_sprout_92 : decode cX9_sprout 92 = .ok (.iconst 1, 1) := by decide +kernel
theorem dX9_sprout_93 : decode cX9_sprout 93 = .ok (.iadd, 1) := by decide +kernel
theorem dX9_sprout_94 : decode cX9_sprout 94 = .ok (.putfield 136, 3) := by decide +kernel
theorem dX9_sprout_97 : decode cX9_sprout 97 = .ok (.aload_n 0, 1) := by decide +kernel
theorem dX9_sprout_98 : decode cX9_sprout 98 = .ok (.iload 6, 2) := by decide +kernel
theorem dX9_sprout_100 : decode cX9_sprout 100 = .ok (.ifCond .lt 7, 3) := by decide +kernel
theorem dX9_sprout_103 : decode cX9_sprout 103 = .ok (.iconst 1, 1) := by decide +kernel
theorem dX9_sprout_104 : decode cX9_sprout 104 = .ok (.goto 51, 3) := by decide +kernel
theorem dX9_sprout_107 : decode cX9_sprout 107 = .ok (.iload 4, 2) := by decide +kernel
theorem dX9_sprout_109 : decode cX9_sprout 109 = .ok (.bipush 33, 2) := by decide +kernel
theorem dX9_sprout_111 : decode cX9_sprout 111 = .ok (.if_icmp .ne 7, 3) := by decide +kernel
theorem dX9_sprout_114 : decode cX9_sprout 114 = .ok (.iconst 2, 1) := by decide +kernel
theorem dX9_sprout_115 : decode cX9_sprout 115 = .ok (.goto 40, 3) := by decide +kernel
theorem dX9_sprout_118 : decode cX9_sprout 118 = .ok (.iload 4, 2) := by decide +kernel
theorem dX9_sprout_120 : decode cX9_sprout 120 = .ok (.bipush 40, 2) := by decide +kernel
theorem dX9_sprout_122 : decode cX9_sprout 122 = .ok (.if_icmp .ne 7, 3) := by decide +kernel
theorem dX9_sprout_125 : decode cX9_sprout 125 = .ok (.iconst 3, 1) := by decide +kernel
theorem dX9_sprout_126 : decode cX9_sprout 126 = .ok (.goto 29, 3) := by decide +kernel
theorem dX9_sprout_129 : decode cX9_sprout 129 = .ok (.iload 4, 2) := by decide +kernel
theorem dX9_sprout_131 : decode cX9_sprout 131 = .ok (.bipush 71, 2) := by decide +kernel
theorem dX9_sprout_133 : decode cX9_sprout 133 = .ok (.if_icmp .ne 8, 3) := by decide +kernel
theorem dX9_sprout_136 : decode cX9_sprout 136 = .ok (.bipush 6, 2) := by decide +kernel
theorem dX9_sprout_138 : decode cX9_sprout 138 = .ok (.goto 17, 3) := by decide +kernel
theorem dX9_sprout_141 : decode cX9_sprout 141 = .ok (.iload 4, 2) := by decide +kernel
theorem dX9_sprout_143 : decode cX9_sprout 143 = .ok (.bipush 88, 2) := by decide +kernel
theorem dX9_sprout_145 : decode cX9_sprout 145 = .ok (.if_icmp .ne 8, 3) := by decide +kernel
theorem dX9_sprout_148 : decode cX9_sprout 148 = .ok (.bipush 7, 2) := by decide +kernel
theorem dX9_sprout_150 : decode cX9_sprout 150 = .ok (.goto 5, 3) := by decide +kernel
theorem dX9_sprout_153 : decode cX9_sprout 153 = .ok (.bipush 8, 2) := by decide +kernel
theorem dX9_sprout_155 : decode cX9_sprout 155 = .ok (.invokevirtual 180, 3) := by decide +kernel
theorem dX9_sprout_158 : decode cX9_sprout 158 = .ok (.istore 7, 2) := by decide +kernel
theorem dX9_sprout_160 : decode cX9_sprout 160 = .ok (.aload_n 0, 1) := by decide +kernel
theorem dX9_sprout_161 : decode cX9_sprout 161 = .ok (.iload_n 2, 1) := by decide +kernel
theorem dX9_sprout_162 : decode cX9_sprout 162 = .ok (.iload 7, 2) := by decide +kernel
theorem dX9_sprout_164 : decode cX9_sprout 164 = .ok (.invokevirtual 184, 3) := by decide +kernel
theorem dX9_sprout_167 : decode cX9_sprout 167 = .ok (.aload_n 0, 1) := by decide +kernel
theorem dX9_sprout_168 : decode cX9_sprout 168 = .ok (.getfield 30, 3) := by decide +kernel
theorem dX9_sprout_171 : decode cX9_sprout 171 = .ok (.iload 7, 2) := by decide +kernel
theorem dX9_sprout_173 : decode cX9_sprout 173 = .ok (.iload 6, 2) := by decide +kernel
theorem dX9_sprout_175 : decode cX9_sprout 175 = .ok (.iastore, 1) := by decide +kernel
theorem dX9_sprout_176 : decode cX9_sprout 176 = .ok (.iload 6, 2) := by decide +kernel
theorem dX9_sprout_178 : decode cX9_sprout 178 = .ok (.ifCond .lt 4, 3) := by decide +kernel
theorem dX9_sprout_181 : decode cX9_sprout 181 = .ok (.return_, 1) := by decide +kernel
theorem dX9_sprout_182 : decode cX9_sprout 182 = .ok (.iload 4, 2) := by decide +kernel
theorem dX9_sprout_184 : decode cX9_sprout 184 = .ok (.bipush 40, 2) := by decide +kernel
theorem dX9_sprout_186 : decode cX9_sprout 186 = .ok (.if_icmp .ne 51, 3) := by decide +kernel
theorem dX9_sprout_189 : decode cX9_sprout 189 = .ok (.aload_n 0, 1) := by decide +kernel
theorem dX9_sprout_190 : decode cX9_sprout 190 = .ok (.iconst 3, 1) := by decide +kernel
theorem dX9_sprout_191 : decode cX9_sprout 191 = .ok (.bipush 41, 2) := by decide +kernel
theorem dX9_sprout_193 : decode cX9_sprout 193 = .ok (.iconst 0, 1) := by decide +kernel
theorem dX9_sprout_194 : decode cX9_sprout 194 = .ok (.invokevirtual 149, 3) := by decide +kernel
theorem dX9_sprout_197 : decode cX9_sprout 197 = .ok (.aload_n 0, 1) := by decide +kernel
theorem dX9_sprout_198 : decode cX9_sprout 198 = .ok (.iload_n 1, 1) := by decide +kernel
theorem dX9_sprout_199 : decode cX9_sprout 199 = .ok (.iload 7, 2) := by decide +kernel
theorem dX9_sprout_201 : decode cX9_sprout 201 = .ok (.iload_n 3, 1) := by decide +kernel
theorem dX9_sprout_202 : decode cX9_sprout 202 = .ok (.iconst 1, 1) := by decide +kernel
theorem dX9_sprout_203 : decode cX9_sprout 203 = .ok (.iadd, 1) := by decide +kernel
theorem dX9_sprout_204 : decode cX9_sprout 204 = .ok (.invokevirtual 149, 3) := by decide +kernel
theorem dX9_sprout_207 : decode cX9_sprout 207 = .ok (.aload_n 0, 1) := by decide +kernel
theorem dX9_sprout_208 : decode cX9_sprout 208 = .ok (.iload 5, 2) := by decide +kernel
theorem dX9_sprout_210 : decode cX9_sprout 210 = .ok (.ifCond .eq 7, 3) := by decide +kernel
theorem dX9_sprout_213 : decode cX9_sprout 213 = .ok (.iconst 4, 1) := by decide +kernel
theorem dX9_sprout_214 : decode cX9_sprout 214 = .ok (.goto 4, 3) := by decide +kernel
theorem dX9_sprout_217 : decode cX9_sprout 217 = .ok (.iconst 5, 1) := by decide +kernel
theorem dX9_sprout_218 : decode cX9_sprout 218 = .ok (.iload 7, 2) := by decide +kernel
theorem dX9_sprout_220 : decode cX9_sprout 220 = .ok (.iconst 0, 1) := by decide +kernel
theorem dX9_sprout_221 : decode cX9_sprout 221 = .ok (.invokevirtual 149, 3) := by decide +kernel
theorem dX9_sprout_224 : decode cX9_sprout 224 = .ok (.aload_n 0, 1) := by decide +kernel
theorem dX9_sprout_225 : decode cX9_sprout 225 = .ok (.iload_n 1, 1) := by decide +kernel
theorem dX9_sprout_226 : decode cX9_sprout 226 = .ok (.iload 7, 2) := by decide +kernel
theorem dX9_sprout_228 : decode cX9_sprout 228 = .ok (.iload_n 3, 1) := by decide +kernel
theorem dX9_sprout_229 : decode cX9_sprout 229 = .ok (.iconst 1, 1) := by decide +kernel
theorem dX9_sprout_230 : decode cX9_sprout 230 = .ok (.iadd, 1) := by decide +kernel
theorem dX9_sprout_231 : decode cX9_sprout 231 = .ok (.invokevirtual 149, 3) := by decide +kernel
theorem dX9_sprout_234 : decode cX9_sprout 234 = .ok (.goto 88, 3) := by decide +kernel
theorem dX9_sprout_237 : decode cX9_sprout 237 = .ok (.iload 4, 2) := by decide +kernel
theorem dX9_sprout_239 : decode cX9_sprout 239 = .ok (.bipush 123, 2) := by decide +kernel
theorem dX9_sprout_241 : decode cX9_sprout 241 = .ok (.if_icmp .ne 60, 3) := by decide +kernel
theorem dX9_sprout_244 : decode cX9_sprout 244 = .ok (.aload_n 0, 1) := by decide +kernel
theorem dX9_sprout_245 : decode cX9_sprout 245 = .ok (.iconst 1, 1) := by decide +kernel
theorem dX9_sprout_246 : decode cX9_sprout 246 = .ok (.iload 7, 2) := by decide +kernel
theorem dX9_sprout_248 : decode cX9_sprout 248 = .ok (.iload_n 3, 1) := by decide +kernel
theorem dX9_sprout_249 : decode cX9_sprout 249 = .ok (.iconst 1, 1) := by decide +kernel
theorem dX9_sprout_250 : decode cX9_sprout 250 = .ok (.iadd, 1) := by decide +kernel
theorem dX9_sprout_251 : decode cX9_sprout 251 = .ok (.invokevirtual 149, 3) := by decide +kernel
theorem dX9_sprout_254 : decode cX9_sprout 254 = .ok (.aload_n 0, 1) := by decide +kernel
theorem dX9_sprout_255 : decode cX9_sprout 255 = .ok (.bipush 6, 2) := by decide +kernel
theorem dX9_sprout_257 : decode cX9_sprout 257 = .ok (.iload 7, 2) := by decide +kernel
theorem dX9_sprout_259 : decode cX9_sprout 259 = .ok (.iconst 0, 1) := by decide +kernel
theorem dX9_sprout_260 : decode cX9_sprout 260 = .ok (.invokevirtual 149, 3) := by decide +kernel
theorem dX9_sprout_263 : decode cX9_sprout 263 = .ok (.aload_n 0, 1) := by decide +kernel
theorem dX9_sprout_264 : decode cX9_sprout 264 = .ok (.iconst 3, 1) := by decide +kernel
theorem dX9_sprout_265 : decode cX9_sprout 265 = .ok (.bipush 125, 2) := by decide +kernel
theorem dX9_sprout_267 : decode cX9_sprout 267 = .ok (.iconst 0, 1) := by decide +kernel
theorem dX9_sprout_268 : decode cX9_sprout 268 = .ok (.invokevirtual 149, 3) := by decide +kernel
theorem dX9_sprout_271 : decode cX9_sprout 271 = .ok (.aload_n 0, 1) := by decide +kernel
theorem dX9_sprout_272 : decode cX9_sprout 272 = .ok (.bipush 10, 2) := by decide +kernel
theorem dX9_sprout_274 : decode cX9_sprout 274 = .ok (.invokevirtual 180, 3) := by decide +kernel
theorem dX9_sprout_277 : decode cX9_sprout 277 = .ok (.istore 8, 2) := by decide +kernel
theorem dX9_sprout_279 : decode cX9_sprout 279 = .ok (.aload_n 0, 1) := by decide +kernel
theorem dX9_sprout_280 : decode cX9_sprout 280 = .ok (.iload 7, 2) := by decide +kernel
theorem dX9_sprout_282 : decode cX9_sprout 282 = .ok (.iload 8, 2) := by decide +kernel
theorem dX9_sprout_284 : decode cX9_sprout 284 = .ok (.invokevirtual 184, 3) := by decide +kernel
theorem dX9_sprout_287 : decode cX9_sprout 287 = .ok (.aload_n 0, 1) := by decide +kernel
theorem dX9_sprout_288 : decode cX9_sprout 288 = .ok (.bipush 7, 2) := by decide +kernel
theorem dX9_sprout_290 : decode cX9_sprout 290 = .ok (.iload 8, 2) := by decide +kernel
theorem dX9_sprout_292 : decode cX9_sprout 292 = .ok (.iload_n 3, 1) := by decide +kernel
theorem dX9_sprout_293 : decode cX9_sprout 293 = .ok (.iconst 1, 1) := by decide +kernel
theorem dX9_sprout_294 : decode cX9_sprout 294 = .ok (.iadd, 1) := by decide +kernel
theorem dX9_sprout_295 : decode cX9_sprout 295 = .ok (.invokevirtual 149, 3) := by decide +kernel
theorem dX9_sprout_298 : decode cX9_sprout 298 = .ok (.goto 24, 3) := by decide +kernel
theorem dX9_sprout_301 : decode cX9_sprout 301 = .ok (.aload_n 0, 1) := by decide +kernel
theorem dX9_sprout_302 : decode cX9_sprout 302 = .ok (.iload 4, 2) := by decide +kernel
theorem dX9_sprout_304 : decode cX9_sprout 304 = .ok (.bipush 33, 2) := by decide +kernel
theorem dX9_sprout_306 : decode cX9_sprout 306 = .ok (.if_icmp .ne 7, 3) := by decide +kernel
theorem dX9_sprout_309 : decode cX9_sprout 309 = .ok (.iconst 2, 1) := by decide +kernel
theorem dX9_sprout_310 : decode cX9_sprout 310 = .ok (.goto 4, 3) := by decide +kernel
theorem dX9_sprout_313 : decode cX9_sprout 313 = .ok (.iconst 1, 1) := by decide +kernel
theorem dX9_sprout_314 : decode cX9_sprout 314 = .ok (.iload 7, 2) := by decide +kernel
theorem dX9_sprout_316 : decode cX9_sprout 316 = .ok (.iload_n 3, 1) := by decide +kernel
theorem dX9_sprout_317 : decode cX9_sprout 317 = .ok (.iconst 1, 1) := by decide +kernel
theorem dX9_sprout_318 : decode cX9_sprout 318 = .ok (.iadd, 1) := by decide +kernel
theorem dX9_sprout_319 : decode cX9_sprout 319 = .ok (.invokevirtual 149, 3) := by decide +kernel
theorem dX9_sprout_322 : decode cX9_sprout 322 = .ok (.return_, 1) := by decide +kernel
theorem dX9_piece_0 : decode cX9_piece 0 = .ok (.aload_n 0, 1) := by decide +kernel
theorem dX9_piece_1 : decode cX9_piece 1 = .ok (.iload_n 2, 1) := by decide +kernel
theorem dX9_piece_2 : decode cX9_piece 2 = .ok (.bipush 12, 2) := by decide +kernel
theorem dX9_piece_4 : decode cX9_piece 4 = .ok (.if_icmp .gt 7, 3) := by decide +kernel
theorem dX9_piece_7 : decode cX9_piece 7 = .ok (.iconst 1, 1) := by decide +kernel
theorem dX9_piece_8 : decode cX9_piece 8 = .ok (.goto 4, 3) := by decide +kernel
theorem dX9_piece_11 : decode cX9_piece 11 = .ok (.iconst 0, 1) := by decide +kernel
theorem dX9_piece_12 : decode cX9_piece 12 = .ok (.putfield 145, 3) := by decide +kernel
theorem dX9_piece_15 : decode cX9_piece 15 = .ok (.aload_n 0, 1) := by decide +kernel
theorem dX9_piece_16 : decode cX9_piece 16 = .ok (.getfield 145, 3) := by decide +kernel
theorem dX9_piece_19 : decode cX9_piece 19 = .ok (.ifCond .ne 4, 3) := by decide +kernel
theorem dX9_piece_22 : decode cX9_piece 22 = .ok (.return_, 1) := by decide +kernel
theorem dX9_piece_23 : decode cX9_piece 23 = .ok (.aload_n 0, 1) := by decide +kernel
theorem dX9_piece_24 : decode cX9_piece 24 = .ok (.bipush 11, 2) := by decide +kernel
theorem dX9_piece_26 : decode cX9_piece 26 = .ok (.invokevirtual 180, 3) := by decide +kernel
theorem dX9_piece_29 : decode cX9_piece 29 = .ok (.istore 4, 2) := by decide +kernel
theorem dX9_piece_31 : decode cX9_piece 31 = .ok (.aload_n 0, 1) := by decide +kernel
theorem dX9_piece_32 : decode cX9_piece 32 = .ok (.getfield 21, 3) := by decide +kernel
theorem dX9_piece_35 : decode cX9_piece 35 = .ok (.iload_n 1, 1) := by decide +kernel
theorem dX9_piece_36 : decode cX9_piece 36 = .ok (.iaload, 1) := by decide +kernel
theorem dX9_piece_37 : decode cX9_piece 37 = .ok (.istore 5, 2) := by decide +kernel
theorem dX9_piece_39 : decode cX9_piece 39 = .ok (.iload 5, 2) := by decide +kernel
theorem dX9_piece_41 : decode cX9_piece 41 = .ok (.ifCond .lt 25, 3) := by decide +kernel
theorem dX9_piece_44 : decode cX9_piece 44 = .ok (.aload_n 0, 1) := by decide +kernel
theorem dX9_piece_45 : decode cX9_piece 45 = .ok (.getfield 27, 3) := by decide +kernel
theorem dX9_piece_48 : decode cX9_piece 48 = .ok (.iload 5, 2) := by decide +kernel
theorem dX9_piece_50 : decode cX9_piece 50 = .ok (.iaload, 1) := by decide +kernel
theorem dX9_piece_51 : decode cX9_piece 51 = .ok (.ifCond .lt 15, 3) := by decide +kernel
theorem dX9_piece_54 : decode cX9_piece 54 = .ok (.aload_n 0, 1) := by decide +kernel
theorem dX9_piece_55 : decode cX9_piece 55 = .ok (.getfield 27, 3) := by decide +kernel
theorem dX9_piece_58 : decode cX9_piece 58 = .ok (.iload 5, 2) := by decide +kernel
theorem dX9_piece_60 : decode cX9_piece 60 = .ok (.iaload, 1) := by decide +kernel
theorem dX9_piece_61 : decode cX9_piece 61 = .ok (.istore 5, 2) := by decide +kernel
theorem dX9_piece_63 : decode cX9_piece 63 = .ok (.goto (-24), 3) := by decide +kernel
theorem dX9_piece_66 : decode cX9_piece 66 = .ok (.iload 5, 2) := by decide +kernel
theorem dX9_piece_68 : decode cX9_piece 68 = .ok (.ifCond .ge 14, 3) := by decide +kernel
theorem dX9_piece_71 : decode cX9_piece 71 = .ok (.aload_n 0, 1) := by decide +kernel
theorem dX9_piece_72 : decode cX9_piece 72 = .ok (.getfield 21, 3) := by decide +kernel
theorem dX9_piece_75 : decode cX9_piece 75 = .ok (.iload_n 1, 1) := by decide +kernel
theorem dX9_piece_76 : decode cX9_piece 76 = .ok (.iload 4, 2) := by decide +kernel
theorem dX9_piece_78 : decode cX9_piece 78 = .ok (.iastore, 1) := by decide +kernel
theorem dX9_piece_79 : decode cX9_piece 79 = .ok (.goto 12, 3) := by decide +kernel
theorem dX9_piece_82 : decode cX9_piece 82 = .ok (.aload_n 0, 1) := by decide +kernel
theorem dX9_piece_83 : decode cX9_piece 83 = .ok (.getfield 27, 3) := by decide +kernel
theorem dX9_piece_86 : decode cX9_piece 86 = .ok (.iload 5, 2) := by decide +kernel
theorem dX9_piece_88 : decode cX9_piece 88 = .ok (.iload 4, 2) := by decide +kernel
theorem dX9_piece_90 : decode cX9_piece 90 = .ok (.iastore, 1) := by decide +kernel
theorem dX9_piece_91 : decode cX9_piece 91 = .ok (.aload_n 0, 1) := by decide +kernel
theorem dX9_piece_92 : decode cX9_piece 92 = .ok (.bipush 9, 2) := by decide +kernel
theorem dX9_piece_94 : decode cX9_piece 94 = .ok (.iload_n 1, 1) := by decide +kernel
theorem dX9_piece_95 : decode cX9_piece 95 = .ok (.iload_n 2, 1) := by decide +kernel
theorem dX9_piece_96 : decode cX9_piece 96 = .ok (.invokevirtual 149, 3) := by decide +kernel
theorem dX9_piece_99 : decode cX9_piece 99 = .ok (.aload_n 0, 1) := by decide +kernel
theorem dX9_piece_100 : decode cX9_piece 100 = .ok (.bipush 8, 2) := by decide +kernel
theorem dX9_piece_102 : decode cX9_piece 102 = .ok (.iload 4, 2) := by decide +kernel
theorem dX9_piece_104 : decode cX9_piece 104 = .ok (.iconst 0, 1) := by decide +kernel
theorem dX9_piece_105 : decode cX9_piece 105 = .ok (.invokevirtual 149, 3) := by decide +kernel
theorem dX9_piece_108 : decode cX9_piece 108 = .ok (.iload_n 3, 1) := by decide +kernel
theorem dX9_piece_109 : decode cX9_piece 109 = .ok (.bipush 91, 2) := by decide +kernel
theorem dX9_piece_111 : decode cX9_piece 111 = .ok (.if_icmp .eq 14, 3) := by decide +kernel
theorem dX9_piece_114 : decode cX9_piece 114 = .ok (.aload_n 0, 1) := by decide +kernel
theorem dX9_piece_115 : decode cX9_piece 115 = .ok (.iconst 2, 1) := by decide +kernel
theorem dX9_piece_116 : decode cX9_piece 116 = .ok (.iload 4, 2) := by decide +kernel
theorem dX9_piece_118 : decode cX9_piece 118 = .ok (.iload_n 2, 1) := by decide +kernel
theorem dX9_piece_119 : decode cX9_piece 119 = .ok (.iconst 1, 1) := by decide +kernel
theorem dX9_piece_120 : decode cX9_piece 120 = .ok (.iadd, 1) := by decide +kernel
theorem dX9_piece_121 : decode cX9_piece 121 = .ok (.invokevirtual 149, 3) := by decide +kernel
theorem dX9_piece_124 : decode cX9_piece 124 = .ok (.return_, 1) := by decide +kernel
theorem dX9_piece_125 : decode cX9_piece 125 = .ok (.aload_n 0, 1) := by decide +kernel
theorem dX9_piece_126 : decode cX9_piece 126 = .ok (.dup, 1) := by decide +kernel
theorem dX9_piece_127 : decode cX9_piece 127 = .ok (.getfield 136, 3) := by decide +kernel
theorem dX9_piece_130 : decode cX9_piece 130 = .ok (.iconst 1, 1) := by decide +kernel
theorem dX9_piece_131 : decode cX9_piece 131 = .ok (.iadd, 1) := by decide +kernel
theorem dX9_piece_132 : decode cX9_piece 132 = .ok (.putfield 136, 3) := by decide +kernel
theorem dX9_piece_135 : decode cX9_piece 135 = .ok (.aload_n 0, 1) := by decide +kernel
theorem dX9_piece_136 : decode cX9_piece 136 = .ok (.bipush 12, 2) := by decide +kernel
theorem dX9_piece_138 : decode cX9_piece 138 = .ok (.invokevirtual 180, 3) := by decide +kernel
theorem dX9_piece_141 : decode cX9_piece 141 = .ok (.istore 6, 2) := by decide +kernel
theorem dX9_piece_143 : decode cX9_piece 143 = .ok (.aload_n 0, 1) := by decide +kernel
theorem dX9_piece_144 : decode cX9_piece 144 = .ok (.iload 4, 2) := by decide +kernel
theorem dX9_piece_146 : decode cX9_piece 146 = .ok (.iload 6, 2) := by decide +kernel
theorem dX9_piece_148 : decode cX9_piece 148 = .ok (.invokevirtual 184, 3) := by decide +kernel
theorem dX9_piece_151 : decode cX9_piece 151 = .ok (.aload_n 0, 1) := by decide +kernel
theorem dX9_piece_152 : decode cX9_piece 152 = .ok (.iload 6, 2) := by decide +kernel
theorem dX9_piece_154 : decode cX9_piece 154 = .ok (.iload_n 2, 1) := by decide +kernel
theorem dX9_piece_155 : decode cX9_piece 155 = .ok (.invokevirtual 172, 3) := by decide +kernel
theorem dX9_piece_158 : decode cX9_piece 158 = .ok (.return_, 1) := by decide +kernel
theorem dX9_sequences_0 : decode cX9_sequences 0 = .ok (.aload_n 0, 1) := by decide +kernel
theorem dX9_sequences_1 : decode cX9_sequences 1 = .ok (.bipush 10, 2) := by decide +kernel
theorem dX9_sequences_3 : decode cX9_sequences 3 = .ok (.invokevirtual 180, 3) := by decide +kernel
theorem dX9_sequences_6 : decode cX9_sequences 6 = .ok (.istore_n 3, 1) := by decide +kernel
theorem dX9_sequences_7 : decode cX9_sequences 7 = .ok (.aload_n 0, 1) := by decide +kernel
theorem dX9_sequences_8 : decode cX9_sequences 8 = .ok (.getfield 21, 3) := by decide +kernel
theorem dX9_sequences_11 : decode cX9_sequences 11 = .ok (.iload_n 1, 1) := by decide +kernel
theorem dX9_sequences_12 : decode cX9_sequences 12 = .ok (.iaload, 1) := by decide +kernel
theorem dX9_sequences_13 : decode cX9_sequences 13 = .ok (.istore 4, 2) := by decide +kernel
theorem dX9_sequences_15 : decode cX9_sequences 15 = .ok (.iload 4, 2) := by decide +kernel
theorem dX9_sequences_17 : decode cX9_sequences 17 = .ok (.ifCond .lt 25, 3) := by decide +kernel
theorem dX9_sequences_20 : decode cX9_sequences 20 = .ok (.aload_n 0, 1) := by decide +kernel
theorem dX9_sequences_21 : decode cX9_sequences 21 = .ok (.getfield 27, 3) := by decide +kernel
theorem dX9_sequences_24 : decode cX9_sequences 24 = .ok (.iload 4, 2) := by decide +kernel
theorem dX9_sequences_26 : decode cX9_sequences 26 = .ok (.iaload, 1) := by decide +kernel
theorem dX9_sequences_27 : decode cX9_sequences 27 = .ok (.ifCond .lt 15, 3) := by decide +kernel
theorem dX9_sequences_30 : decode cX9_sequences 30 = .ok (.aload_n 0, 1) := by decide +kernel
theorem dX9_sequences_31 : decode cX9_sequences 31 = .ok (.getfield 27, 3) := by decide +kernel
theorem dX9_sequences_34 : decode cX9_sequences 34 = .ok (.iload 4, 2) := by decide +kernel
theorem dX9_sequences_36 : decode cX9_sequences 36 = .ok (.iaload, 1) := by decide +kernel
theorem dX9_sequences_37 : decode cX9_sequences 37 = .ok (.istore 4, 2) := by decide +kernel
theorem dX9_sequences_39 : decode cX9_sequences 39 = .ok (.goto (-24), 3) := by decide +kernel
theorem dX9_sequences_42 : decode cX9_sequences 42 = .ok (.iload 4, 2) := by decide +kernel
theorem dX9_sequences_44 : decode cX9_sequences 44 = .ok (.ifCond .ge 13, 3) := by decide +kernel
theorem dX9_sequences_47 : decode cX9_sequences 47 = .ok (.aload_n 0, 1) := by decide +kernel
theorem dX9_sequences_48 : decode cX9_sequences 48 = .ok (.getfield 21, 3) := by decide +kernel
theorem dX9_sequences_51 : decode cX9_sequences 51 = .ok (.iload_n 1, 1) := by decide +kernel
theorem dX9_sequences_52 : decode cX9_sequences 52 = .ok (.iload_n 3, 1) := by decide +kernel
theorem dX9_sequences_53 : decode cX9_sequences 53 = .ok (.iastore, 1) := by decide +kernel
theorem dX9_sequences_54 : decode cX9_sequences 54 = .ok (.goto 11, 3) := by decide +kernel
theorem dX9_sequences_57 : decode cX9_sequences 57 = .ok (.aload_n 0, 1) := by decide +kernel
theorem dX9_sequences_58 : decode cX9_sequences 58 = .ok (.getfield 27, 3) := by decide +kernel
theorem dX9_sequences_61 : decode cX9_sequences 61 = .ok (.iload 4, 2) := by decide +kernel
theorem dX9_sequences_63 : decode cX9_sequences 63 = .ok (.iload_n 3, 1) := by decide +kernel
theorem dX9_sequences_64 : decode cX9_sequences 64 = .ok (.iastore, 1) := by decide +kernel
theorem dX9_sequences_65 : decode cX9_sequences 65 = .ok (.aload_n 0, 1) := by decide +kernel
theorem dX9_sequences_66 : decode cX9_sequences 66 = .ok (.bipush 10, 2) := by decide +kernel
theorem dX9_sequences_68 : decode cX9_sequences 68 = .ok (.iload_n 1, 1) := by decide +kernel
theorem dX9_sequences_69 : decode cX9_sequences 69 = .ok (.iload_n 2, 1) := by decide +kernel
theorem dX9_sequences_70 : decode cX9_sequences 70 = .ok (.invokevirtual 149, 3) := by decide +kernel
theorem dX9_sequences_73 : decode cX9_sequences 73 = .ok (.aload_n 0, 1) := by decide +kernel
theorem dX9_sequences_74 : decode cX9_sequences 74 = .ok (.bipush 7, 2) := by decide +kernel
theorem dX9_sequences_76 : decode cX9_sequences 76 = .ok (.iload_n 3, 1) := by decide +kernel
theorem dX9_sequences_77 : decode cX9_sequences 77 = .ok (.iload_n 2, 1) := by decide +kernel
theorem dX9_sequences_78 : decode cX9_sequences 78 = .ok (.iconst 1, 1) := by decide +kernel
theorem dX9_sequences_79 : decode cX9_sequences 79 = .ok (.iadd, 1) := by decide +kernel
theorem dX9_sequences_80 : decode cX9_sequences 80 = .ok (.invokevirtual 149, 3) := by decide +kernel
theorem dX9_sequences_83 : decode cX9_sequences 83 = .ok (.return_, 1) := by decide +kernel
theorem dX9_times_0 : decode cX9_times 0 = .ok (.iload_n 2, 1) := by decide +kernel
theorem dX9_times_1 : decode cX9_times 1 = .ok (.bipush 43, 2) := by decide +kernel
theorem dX9_times_3 : decode cX9_times 3 = .ok (.if_icmp .ne 20, 3) := by decide +kernel
theorem dX9_times_6 : decode cX9_times 6 = .ok (.aload_n 0, 1) := by decide +kernel
theorem dX9_times_7 : decode cX9_times 7 = .ok (.dup, 1) := by decide +kernel
theorem dX9_times_8 : decode cX9_times 8 = .ok (.getfield 136, 3) := by decide +kernel
theorem dX9_times_11 : decode cX9_times 11 = .ok (.iconst 1, 1) := by decide +kernel
theorem dX9_times_12 : decode cX9_times 12 = .ok (.iadd, 1) := by decide +kernel
theorem dX9_times_13 : decode cX9_times 13 = .ok (.putfield 136, 3) := by decide +kernel
theorem dX9_times_16 : decode cX9_times 16 = .ok (.aload_n 0, 1) := by decide +kernel
theorem dX9_times_17 : decode cX9_times 17 = .ok (.getfield 33, 3) := by decide +kernel
theorem dX9_times_20 : decode cX9_times 20 = .ok (.iload_n 1, 1) := by decide +kernel
theorem dX9_times_21 : decode cX9_times 21 = .ok (.iconst 0, 1) := by decide +kernel
theorem dX9_times_22 : decode cX9_times 22 = .ok (.iastore, 1) := by decide +kernel
theorem dX9_times_23 : decode cX9_times 23 = .ok (.iload_n 2, 1) := by decide +kernel
theorem dX9_times_24 : decode cX9_times 24 = .ok (.bipush 42, 2) := by decide +kernel
theorem dX9_times_26 : decode cX9_times 26 = .ok (.if_icmp .eq 4, 3) := by decide +kernel
theorem dX9_times_29 : decode cX9_times 29 = .ok (.return_, 1) := by decide +kernel
theorem dX9_times_30 : decode cX9_times 30 = .ok (.aload_n 0, 1) := by decide +kernel
theorem dX9_times_31 : decode cX9_times 31 = .ok (.dup, 1) := by decide +kernel
theorem dX9_times_32 : decode cX9_times 32 = .ok (.getfield 136, 3) := by decide +kernel
theorem dX9_times_35 : decode cX9_times 35 = .ok (.iconst 1, 1) := by decide +kernel
theorem dX9_times_36 : decode cX9_times 36 = .ok (.iadd, 1) := by decide +kernel
theorem dX9_times_37 : decode cX9_times 37 = .ok (.putfield 136, 3) := by decide +kernel
theorem dX9_times_40 : decode cX9_times 40 = .ok (.aload_n 0, 1) := by decide +kernel
theorem dX9_times_41 : decode cX9_times 41 = .ok (.invokevirtual 156, 3) := by decide +kernel
theorem dX9_times_44 : decode cX9_times 44 = .ok (.bipush 48, 2) := by decide +kernel
theorem dX9_times_46 : decode cX9_times 46 = .ok (.isub, 1) := by decide +kernel
theorem dX9_times_47 : decode cX9_times 47 = .ok (.istore_n 3, 1) := by decide +kernel
theorem dX9_times_48 : decode cX9_times 48 = .ok (.aload_n 0, 1) := by decide +kernel
theorem dX9_times_49 : decode cX9_times 49 = .ok (.iload_n 3, 1) := by decide +kernel
theorem dX9_times_50 : decode cX9_times 50 = .ok (.iconst 1, 1) := by decide +kernel
theorem dX9_times_51 : decode cX9_times 51 = .ok (.if_icmp .lt 13, 3) := by decide +kernel
theorem dX9_times_54 : decode cX9_times 54 = .ok (.iload_n 3, 1) := by decide +kernel
theorem dX9_times_55 : decode cX9_times 55 = .ok (.bipush 9, 2) := by decide +kernel
theorem dX9_times_57 : decode cX9_times 57 = .ok (.if_icmp .gt 7, 3) := by decide +kernel
theorem dX9_times_60 : decode cX9_times 60 = .ok (.iconst 1, 1) := by decide +kernel
theorem dX9_times_61 : decode cX9_times 61 = .ok (.goto 4, 3) := by decide +kernel
theorem dX9_times_64 : decode cX9_times 64 = .ok (.iconst 0, 1) := by decide +kernel
theorem dX9_times_65 : decode cX9_times 65 = .ok (.putfield 145, 3) := by decide +kernel
theorem dX9_times_68 : decode cX9_times 68 = .ok (.aload_n 0, 1) := by decide +kernel
theorem dX9_times_69 : decode cX9_times 69 = .ok (.getfield 145, 3) := by decide +kernel
theorem dX9_times_72 : decode cX9_times 72 = .ok (.ifCond .ne 4, 3) := by decide +kernel
theorem dX9_times_75 : decode cX9_times 75 = .ok (.return_, 1) := by decide +kernel
theorem dX9_times_76 : decode cX9_times 76 = .ok (.aload_n 0, 1) := by decide +kernel
theorem dX9_times_77 : decode cX9_times 77 = .ok (.dup, 1) := by decide +kernel
theorem dX9_times_78 : decode cX9_times 78 = .ok (.getfield 136, 3) := by decide +kernel
theorem dX9_times_81 : decode cX9_times 81 = .ok (.iconst 1, 1) := by decide +kernel
theorem dX9_times_82 : decode cX9_times 82 = .ok (.iadd, 1) := by decide +kernel
theorem dX9_times_83 : decode cX9_times 83 = .ok (.putfield 136, 3) := by decide +kernel
theorem dX9_times_86 : decode cX9_times 86 = .ok (.aload_n 0, 1) := by decide +kernel
theorem dX9_times_87 : decode cX9_times 87 = .ok (.getfield 30, 3) := by decide +kernel
theorem dX9_times_90 : decode cX9_times 90 = .ok (.iload_n 1, 1) := by decide +kernel
theorem dX9_times_91 : decode cX9_times 91 = .ok (.iload_n 3, 1) := by decide +kernel
theorem dX9_times_92 : decode cX9_times 92 = .ok (.iastore, 1) := by decide +kernel
theorem dX9_times_93 : decode cX9_times 93 = .ok (.aload_n 0, 1) := by decide +kernel
theorem dX9_times_94 : decode cX9_times 94 = .ok (.getfield 33, 3) := by decide +kernel
theorem dX9_times_97 : decode cX9_times 97 = .ok (.iload_n 1, 1) := by decide +kernel
theorem dX9_times_98 : decode cX9_times 98 = .ok (.iload_n 3, 1) := by decide +kernel
theorem dX9_times_99 : decode cX9_times 99 = .ok (.iastore, 1) := by decide +kernel
theorem dX9_times_100 : decode cX9_times 100 = .ok (.aload_n 0, 1) := by decide +kernel
theorem dX9_times_101 : decode cX9_times 101 = .ok (.invokevirtual 156, 3) := by decide +kernel
theorem dX9_times_104 : decode cX9_times 104 = .ok (.bipush 45, 2) := by decide +kernel
theorem dX9_times_106 : decode cX9_times 106 = .ok (.if_icmp .eq 4, 3) := by decide +kernel
theorem dX9_times_109 : decode cX9_times 109 = .ok (.return_, 1) := by decide +kernel
theorem dX9_times_110 : decode cX9_times 110 = .ok (.aload_n 0, 1) := by decide +kernel
theorem dX9_times_111 : decode cX9_times 111 = .ok (.dup, 1) := by decide +kernel
theorem dX9_times_112 : decode cX9_times 112 = .ok (.getfield 136, 3) := by decide +kernel
theorem dX9_times_115 : decode cX9_times 115 = .ok (.iconst 1, 1) := by decide +kernel
theorem dX9_times_116 : decode cX9_times 116 = .ok (.iadd, 1) := by decide +kernel
theorem dX9_times_117 : decode cX9_times 117 = .ok (.putfield 136, 3) := by decide +kernel
theorem dX9_times_120 : decode cX9_times 120 = .ok (.aload_n 0, 1) := by decide +kernel
theorem dX9_times_121 : decode cX9_times 121 = .ok (.invokevirtual 156, 3) := by decide +kernel
theorem dX9_times_124 : decode cX9_times 124 = .ok (.bipush 48, 2) := by decide +kernel
theorem dX9_times_126 : decode cX9_times 126 = .ok (.isub, 1) := by decide +kernel
theorem dX9_times_127 : decode cX9_times 127 = .ok (.istore 4, 2) := by decide +kernel
theorem dX9_times_129 : decode cX9_times 129 = .ok (.aload_n 0, 1) := by decide +kernel
theorem dX9_times_130 : decode cX9_times 130 = .ok (.iload 4, 2) := by decide +kernel
theorem dX9_times_132 : decode cX9_times 132 = .ok (.iload_n 3, 1) := by decide +kernel
theorem dX9_times_133 : decode cX9_times 133 = .ok (.if_icmp .lt 14, 3) := by decide +kernel
theorem dX9_times_136 : decode cX9_times 136 = .ok (.iload 4, 2) := by decide +kernel
theorem dX9_times_138 : decode cX9_times 138 = .ok (.bipush 9, 2) := by decide +kernel
theorem dX9_times_140 : decode cX9_times 140 = .ok (.if_icmp .gt 7, 3) := by decide +kernel
theorem dX9_times_143 : decode cX9_times 143 = .ok (.iconst 1, 1) := by decide +kernel
theorem dX9_times_144 : decode cX9_times 144 = .ok (.goto 4, 3) := by decide +kernel
theorem dX9_times_147 : decode cX9_times 147 = .ok (.iconst 0, 1) := by decide +kernel
theorem dX9_times_148 : decode cX9_times 148 = .ok (.putfield 145, 3) := by decide +kernel
theorem dX9_times_151 : decode cX9_times 151 = .ok (.aload_n 0, 1) := by decide +kernel
theorem dX9_times_152 : decode cX9_times 152 = .ok (.getfield 33, 3) := by decide +kernel
theorem dX9_times_155 : decode cX9_times 155 = .ok (.iload_n 1, 1) := by decide +kernel
theorem dX9_times_156 : decode cX9_times 156 = .ok (.iload 4, 2) := by decide +kernel
theorem dX9_times_158 : decode cX9_times 158 = .ok (.iastore, 1) := by decide +kernel
theorem dX9_times_159 : decode cX9_times 159 = .ok (.aload_n 0, 1) := by decide +kernel
theorem dX9_times_160 : decode cX9_times 160 = .ok (.dup, 1) := by decide +kernel
theorem dX9_times_161 : decode cX9_times 161 = .ok (.getfield 136, 3) := by decide +kernel
theorem dX9_times_164 : decode cX9_times 164 = .ok (.aload_n 0, 1) := by decide +kernel
theorem dX9_times_165 : decode cX9_times 165 = .ok (.getfield 145, 3) := by decide +kernel
theorem dX9_times_168 : decode cX9_times 168 = .ok (.ifCond .eq 7, 3) := by decide +kernel
theorem dX9_times_171 : decode cX9_times 171 = .ok (.iconst 1, 1) := by decide +kernel
theorem dX9_times_172 : decode cX9_times 172 = .ok (.goto 4, 3) := by decide +kernel
theorem dX9_times_175 : decode cX9_times 175 = .ok (.iconst 0, 1) := by decide +kernel
theorem dX9_times_176 : decode cX9_times 176 = .ok (.iadd, 1) := by decide +kernel
theorem dX9_times_177 : decode cX9_times 177 = .ok (.putfield 136, 3) := by decide +kernel
theorem dX9_times_180 : decode cX9_times 180 = .ok (.return_, 1) := by decide +kernel
theorem dX9_oblige_0 : decode cX9_oblige 0 = .ok (.iload_n 1, 1) := by decide +kernel
theorem dX9_oblige_1 : decode cX9_oblige 1 = .ok (.ifCond .lt 21, 3) := by decide +kernel
theorem dX9_oblige_4 : decode cX9_oblige 4 = .ok (.aload_n 0, 1) := by decide +kernel
theorem dX9_oblige_5 : decode cX9_oblige 5 = .ok (.getfield 45, 3) := by decide +kernel
theorem dX9_oblige_8 : decode cX9_oblige 8 = .ok (.iload_n 1, 1) := by decide +kernel
theorem dX9_oblige_9 : decode cX9_oblige 9 = .ok (.iaload, 1) := by decide +kernel
theorem dX9_oblige_10 : decode cX9_oblige 10 = .ok (.ifCond .ge 12, 3) := by decide +kernel
theorem dX9_oblige_13 : decode cX9_oblige 13 = .ok (.aload_n 0, 1) := by decide +kernel
theorem dX9_oblige_14 : decode cX9_oblige 14 = .ok (.getfield 187, 3) := by decide +kernel
theorem dX9_oblige_17 : decode cX9_oblige 17 = .ok (.bipush 9, 2) := by decide +kernel
theorem dX9_oblige_19 : decode cX9_oblige 19 = .ok (.if_icmp .le 4, 3) := by decide +kernel
theorem dX9_oblige_22 : decode cX9_oblige 22 = .ok (.return_, 1) := by decide +kernel
theorem dX9_oblige_23 : decode cX9_oblige 23 = .ok (.aload_n 0, 1) := by decide +kernel
theorem dX9_oblige_24 : decode cX9_oblige 24 = .ok (.getfield 45, 3) := by decide +kernel
theorem dX9_oblige_27 : decode cX9_oblige 27 = .ok (.iload_n 1, 1) := by decide +kernel
theorem dX9_oblige_28 : decode cX9_oblige 28 = .ok (.aload_n 0, 1) := by decide +kernel
theorem dX9_oblige_29 : decode cX9_oblige 29 = .ok (.getfield 187, 3) := by decide +kernel
theorem dX9_oblige_32 : decode cX9_oblige 32 = .ok (.iastore, 1) := by decide +kernel
theorem dX9_oblige_33 : decode cX9_oblige 33 = .ok (.aload_n 0, 1) := by decide +kernel
theorem dX9_oblige_34 : decode cX9_oblige 34 = .ok (.getfield 48, 3) := by decide +kernel
theorem dX9_oblige_37 : decode cX9_oblige 37 = .ok (.aload_n 0, 1) := by decide +kernel
theorem dX9_oblige_38 : decode cX9_oblige 38 = .ok (.getfield 187, 3) := by decide +kernel
theorem dX9_oblige_41 : decode cX9_oblige 41 = .ok (.iload_n 1, 1) := by decide +kernel
theorem dX9_oblige_42 : decode cX9_oblige 42 = .ok (.iastore, 1) := by decide +kernel
theorem dX9_oblige_43 : decode cX9_oblige 43 = .ok (.aload_n 0, 1) := by decide +kernel
theorem dX9_oblige_44 : decode cX9_oblige 44 = .ok (.dup, 1) := by decide +kernel
theorem dX9_oblige_45 : decode cX9_oblige 45 = .ok (.getfield 187, 3) := by decide +kernel
theorem dX9_oblige_48 : decode cX9_oblige 48 = .ok (.iconst 1, 1) := by decide +kernel
theorem dX9_oblige_49 : decode cX9_oblige 49 = .ok (.iadd, 1) := by decide +kernel
theorem dX9_oblige_50 : decode cX9_oblige 50 = .ok (.putfield 187, 3) := by decide +kernel
theorem dX9_oblige_53 : decode cX9_oblige 53 = .ok (.return_, 1) := by decide +kernel
theorem dX9_collect_0 : decode cX9_collect 0 = .ok (.aload_n 0, 1) := by decide +kernel
theorem dX9_collect_1 : decode cX9_collect 1 = .ok (.iconst 0, 1) := by decide +kernel
theorem dX9_collect_2 : decode cX9_collect 2 = .ok (.putfield 187, 3) := by decide +kernel
theorem dX9_collect_5 : decode cX9_collect 5 = .ok (.aload_n 0, 1) := by decide +kernel
theorem dX9_collect_6 : decode cX9_collect 6 = .ok (.iconst 0, 1) := by decide +kernel
theorem dX9_collect_7 : decode cX9_collect 7 = .ok (.invokevirtual 190, 3) := by decide +kernel
theorem dX9_collect_10 : decode cX9_collect 10 = .ok (.iconst 0, 1) := by decide +kernel
theorem dX9_collect_11 : decode cX9_collect 11 = .ok (.istore_n 1, 1) := by decide +kernel
theorem dX9_collect_12 : decode cX9_collect 12 = .ok (.iload_n 1, 1) := by decide +kernel
theorem dX9_collect_13 : decode cX9_collect 13 = .ok (.aload_n 0, 1) := by decide +kernel
theorem dX9_collect_14 : decode cX9_collect 14 = .ok (.getfield 142, 3) := by decide +kernel
theorem dX9_collect_17 : decode cX9_collect 17 = .ok (.if_icmp .ge 77, 3) := by decide +kernel
theorem dX9_collect_20 : decode cX9_collect 20 = .ok (.aload_n 0, 1) := by decide +kernel
theorem dX9_collect_21 : decode cX9_collect 21 = .ok (.getfield 17, 3) := by decide +kernel
theorem dX9_collect_24 : decode cX9_collect 24 = .ok (.iload_n 1, 1) := by decide +kernel
theorem dX9_collect_25 : decode cX9_collect 25 = .ok (.iaload, 1) := by decide +kernel
theorem dX9_collect_26 : decode cX9_collect 26 = .ok (.bipush 6, 2) := by decide +kernel
theorem dX9_collect_28 : decode cX9_collect 28 = .ok (.if_icmp .eq 13, 3) := by decide +kernel
theorem dX9_collect_31 : decode cX9_collect 31 = .ok (.aload_n 0, 1) := by decide +kernel
theorem dX9_collect_32 : decode cX9_collect 32 = .ok (.getfield 17, 3) := by decide +kernel
theorem dX9_collect_35 : decode cX9_collect 35 = .ok (.iload_n 1, 1) := by decide +kernel
theorem dX9_collect_36 : decode cX9_collect 36 = .ok (.iaload, 1) := by decide +kernel
theorem dX9_collect_37 : decode cX9_collect 37 = .ok (.iconst 5, 1) := by decide +kernel
theorem dX9_collect_38 : decode cX9_collect 38 = .ok (.if_icmp .ne 8, 3) := by decide +kernel
theorem dX9_collect_41 : decode cX9_collect 41 = .ok (.aload_n 0, 1) := by decide +kernel
theorem dX9_collect_42 : decode cX9_collect 42 = .ok (.iload_n 1, 1) := by decide +kernel
theorem dX9_collect_43 : decode cX9_collect 43 = .ok (.invokevirtual 190, 3) := by decide +kernel
theorem dX9_collect_46 : decode cX9_collect 46 = .ok (.aload_n 0, 1) := by decide +kernel
theorem dX9_collect_47 : decode cX9_collect 47 = .ok (.getfield 17, 3) := by decide +kernel
theorem dX9_collect_50 : decode cX9_collect 50 = .ok (.iload_n 1, 1) := by decide +kernel
theorem dX9_collect_51 : decode cX9_collect 51 = .ok (.iaload, 1) := by decide +kernel
theorem dX9_collect_52 : decode cX9_collect 52 = .ok (.bipush 7, 2) := by decide +kernel
theorem dX9_collect_54 : decode cX9_collect 54 = .ok (.if_icmp .ne 13, 3) := by decide +kernel
theorem dX9_collect_57 : decode cX9_collect 57 = .ok (.aload_n 0, 1) := by decide +kernel
theorem dX9_collect_58 : decode cX9_collect 58 = .ok (.aload_n 0, 1) := by decide +kernel
theorem dX9_collect_59 : decode cX9_collect 59 = .ok (.getfield 21, 3) := by decide +kernel
theorem dX9_collect_62 : decode cX9_collect 62 = .ok (.iload_n 1, 1) := by decide +kernel
theorem dX9_collect_63 : decode cX9_collect 63 = .ok (.iaload, 1) := by decide +kernel
theorem dX9_collect_64 : decode cX9_collect 64 = .ok (.invokevirtual 190, 3) := by decide +kernel
theorem dX9_collect_67 : decode cX9_collect 67 = .ok (.aload_n 0, 1) := by decide +kernel
theorem dX9_collect_68 : decode cX9_collect 68 = .ok (.getfield 17, 3) := by decide +kernel
theorem dX9_collect_71 : decode cX9_collect 71 = .ok (.iload_n 1, 1) := by decide +kernel
theorem dX9_collect_72 : decode cX9_collect 72 = .ok (.iaload, 1) := by decide +kernel
theorem dX9_collect_73 : decode cX9_collect 73 = .ok (.bipush 9, 2) := by decide +kernel
theorem dX9_collect_75 : decode cX9_collect 75 = .ok (.if_icmp .ne 13, 3) := by decide +kernel
theorem dX9_collect_78 : decode cX9_collect 78 = .ok (.aload_n 0, 1) := by decide +kernel
theorem dX9_collect_79 : decode cX9_collect 79 = .ok (.aload_n 0, 1) := by decide +kernel
theorem dX9_collect_80 : decode cX9_collect 80 = .ok (.getfield 24, 3) := by decide +kernel
theorem dX9_collect_83 : decode cX9_collect 83 = .ok (.iload_n 1, 1) := by decide +kernel
theorem dX9_collect_84 : decode cX9_collect 84 = .ok (.iaload, 1) := by decide +kernel
theorem dX9_collect_85 : decode cX9_collect 85 = .ok (.invokevirtual 190, 3) := by decide +kernel
theorem dX9_collect_88 : decode cX9_collect 88 = .ok (.iinc 1 1, 3) := by decide +kernel
theorem dX9_collect_91 : decode cX9_collect 91 = .ok (.goto (-79), 3) := by decide +kernel
theorem dX9_collect_94 : decode cX9_collect 94 = .ok (.iconst 0, 1) := by decide +kernel
theorem dX9_collect_95 : decode cX9_collect 95 = .ok (.istore_n 1, 1) := by decide +kernel
theorem dX9_collect_96 : decode cX9_collect 96 = .ok (.iload_n 1, 1) := by decide +kernel
theorem dX9_collect_97 : decode cX9_collect 97 = .ok (.aload_n 0, 1) := by decide +kernel
theorem dX9_collect_98 : decode cX9_collect 98 = .ok (.getfield 142, 3) := by decide +kernel
theorem dX9_collect_101 : decode cX9_collect 101 = .ok (.if_icmp .ge 45, 3) := by decide +kernel
theorem dX9_collect_104 : decode cX9_collect 104 = .ok (.aload_n 0, 1) := by decide +kernel
theorem dX9_collect_105 : decode cX9_collect 105 = .ok (.getfield 187, 3) := by decide +kernel
theorem dX9_collect_108 : decode cX9_collect 108 = .ok (.bipush 9, 2) := by decide +kernel
theorem dX9_collect_110 : decode cX9_collect 110 = .ok (.if_icmp .gt 36, 3) := by decide +kernel
theorem dX9_collect_113 : decode cX9_collect 113 = .ok (.aload_n 0, 1) := by decide +kernel
theorem dX9_collect_114 : decode cX9_collect 114 = .ok (.getfield 17, 3) := by decide +kernel
theorem dX9_collect_117 : decode cX9_collect 117 = .ok (.iload_n 1, 1) := by decide +kernel
theorem dX9_collect_118 : decode cX9_collect 118 = .ok (.iaload, 1) := by decide +kernel
theorem dX9_collect_119 : decode cX9_collect 119 = .ok (.bipush 8, 2) := by decide +kernel
theorem dX9_collect_121 : decode cX9_collect 121 = .ok (.if_icmp .eq 14, 3) := by decide +kernel
theorem dX9_collect_124 : decode cX9_collect 124 = .ok (.aload_n 0, 1) := by decide +kernel
theorem dX9_collect_125 : decode cX9_collect 125 = .ok (.getfield 17, 3) := by decide +kernel
theorem dX9_collect_128 : decode cX9_collect 128 = .ok (.iload_n 1, 1) := by decide +kernel
theorem dX9_collect_129 : decode cX9_collect 129 = .ok (.iaload, 1) := by decide +kernel
theorem dX9_collect_130 : decode cX9_collect 130 = .ok (.bipush 9, 2) := by decide +kernel
theorem dX9_collect_132 : decode cX9_collect 132 = .ok (.if_icmp .ne 8, 3) := by decide +kernel
theorem dX9_collect_135 : decode cX9_collect 135 = .ok (.aload_n 0, 1) := by decide +kernel
theorem dX9_collect_136 : decode cX9_collect 136 = .ok (.iload_n 1, 1) := by decide +kernel
theorem dX9_collect_137 : decode cX9_collect 137 = .ok (.invokevirtual 194, 3) := by decide +kernel
theorem dX9_collect_140 : decode cX9_collect 140 = .ok (.iinc 1 1, 3) := by decide +kernel
theorem dX9_collect_143 : decode cX9_collect 143 = .ok (.goto (-47), 3) := by decide +kernel
theorem dX9_collect_146 : decode cX9_collect 146 = .ok (.return_, 1) := by decide +kernel
theorem dX9_enter_0 : decode cX9_enter 0 = .ok (.aload_n 0, 1) := by decide +kernel
theorem dX9_enter_1 : decode cX9_enter 1 = .ok (.getfield 64, 3) := by decide +kernel
theorem dX9_enter_4 : decode cX9_enter 4 = .ok (.aload_n 0, 1) := by decide +kernel
theorem dX9_enter_5 : decode cX9_enter 5 = .ok (.getfield 197, 3) := by decide +kernel
theorem dX9_enter_8 : decode cX9_enter 8 = .ok (.iload_n 1, 1) := by decide +kernel
theorem dX9_enter_9 : decode cX9_enter 9 = .ok (.iastore, 1) := by decide +kernel
theorem dX9_enter_10 : decode cX9_enter 10 = .ok (.aload_n 0, 1) := by decide +kernel
theorem dX9_enter_11 : decode cX9_enter 11 = .ok (.getfield 67, 3) := by decide +kernel
theorem dX9_enter_14 : decode cX9_enter 14 = .ok (.aload_n 0, 1) := by decide +kernel
theorem dX9_enter_15 : decode cX9_enter 15 = .ok (.getfield 197, 3) := by decide +kernel
theorem dX9_enter_18 : decode cX9_enter 18 = .ok (.aload_n 0, 1) := by decide +kernel
theorem dX9_enter_19 : decode cX9_enter 19 = .ok (.getfield 17, 3) := by decide +kernel
theorem dX9_enter_22 : decode cX9_enter 22 = .ok (.iload_n 1, 1) := by decide +kernel
theorem dX9_enter_23 : decode cX9_enter 23 = .ok (.iaload, 1) := by decide +kernel
theorem dX9_enter_24 : decode cX9_enter 24 = .ok (.bipush 11, 2) := by decide +kernel
theorem dX9_enter_26 : decode cX9_enter 26 = .ok (.if_icmp .ne 7, 3) := by decide +kernel
theorem dX9_enter_29 : decode cX9_enter 29 = .ok (.iconst 0, 1) := by decide +kernel
theorem dX9_enter_30 : decode cX9_enter 30 = .ok (.goto 4, 3) := by decide +kernel
theorem dX9_enter_33 : decode cX9_enter 33 = .ok (.iconst (-1), 1) := by decide +kernel
theorem dX9_enter_34 : decode cX9_enter 34 = .ok (.iastore, 1) := by decide +kernel
theorem dX9_enter_35 : decode cX9_enter 35 = .ok (.aload_n 0, 1) := by decide +kernel
theorem dX9_enter_36 : decode cX9_enter 36 = .ok (.dup, 1) := by decide +kernel
theorem dX9_enter_37 : decode cX9_enter 37 = .ok (.getfield 197, 3) := by decide +kernel
theorem dX9_enter_40 : decode cX9_enter 40 = .ok (.iconst 1, 1) := by decide +kernel
theorem dX9_enter_41 : decode cX9_enter 41 = .ok (.iadd, 1) := by decide +kernel
theorem dX9_enter_42 : decode cX9_enter 42 = .ok (.putfield 197, 3) := by decide +kernel
theorem dX9_enter_45 : decode cX9_enter 45 = .ok (.return_, 1) := by decide +kernel
theorem dX9_push_0 : decode cX9_push 0 = .ok (.aload_n 0, 1) := by decide +kernel
theorem dX9_push_1 : decode cX9_push 1 = .ok (.getfield 70, 3) := by decide +kernel
theorem dX9_push_4 : decode cX9_push 4 = .ok (.aload_n 0, 1) := by decide +kernel
theorem dX9_push_5 : decode cX9_push 5 = .ok (.getfield 200, 3) := by decide +kernel
theorem dX9_push_8 : decode cX9_push 8 = .ok (.iload_n 1, 1) := by decide +kernel
theorem dX9_push_9 : decode cX9_push 9 = .ok (.iastore, 1) := by decide +kernel
theorem dX9_push_10 : decode cX9_push 10 = .ok (.aload_n 0, 1) := by decide +kernel
theorem dX9_push_11 : decode cX9_push 11 = .ok (.getfield 73, 3) := by decide +kernel
theorem dX9_push_14 : decode cX9_push 14 = .ok (.aload_n 0, 1) := by decide +kernel
theorem dX9_push_15 : decode cX9_push 15 = .ok (.getfield 200, 3) := by decide +kernel
theorem dX9_push_18 : decode cX9_push 18 = .ok (.iload_n 2, 1) := by decide +kernel
theorem dX9_push_19 : decode cX9_push 19 = .ok (.iastore, 1) := by decide +kernel
theorem dX9_push_20 : decode cX9_push 20 = .ok (.aload_n 0, 1) := by decide +kernel
theorem dX9_push_21 : decode cX9_push 21 = .ok (.getfield 76, 3) := by decide +kernel
theorem dX9_push_24 : decode cX9_push 24 = .ok (.aload_n 0, 1) := by decide +kernel
theorem dX9_push_25 : decode cX9_push 25 = .ok (.getfield 200, 3) := by decide +kernel
theorem dX9_push_28 : decode cX9_push 28 = .ok (.iload_n 2, 1) := by decide +kernel
theorem dX9_push_29 : decode cX9_push 29 = .ok (.iastore, 1) := by decide +kernel
theorem dX9_push_30 : decode cX9_push 30 = .ok (.aload_n 0, 1) := by decide +kernel
theorem dX9_push_31 : decode cX9_push 31 = .ok (.dup, 1) := by decide +kernel
theorem dX9_push_32 : decode cX9_push 32 = .ok (.getfield 200, 3) := by decide +kernel
theorem dX9_push_35 : decode cX9_push 35 = .ok (.iconst 1, 1) := by decide +kernel
theorem dX9_push_36 : decode cX9_push 36 = .ok (.iadd, 1) := by decide +kernel
theorem dX9_push_37 : decode cX9_push 37 = .ok (.putfield 200, 3) := by decide +kernel
theorem dX9_push_40 : decode cX9_push 40 = .ok (.return_, 1) := by decide +kernel
theorem dX9_unroll_0 : decode cX9_unroll 0 = .ok (.aload_n 0, 1) := by decide +kernel
theorem dX9_unroll_1 : decode cX9_unroll 1 = .ok (.getfield 187, 3) := by decide +kernel
theorem dX9_unroll_4 : decode cX9_unroll 4 = .ok (.istore_n 2, 1) := by decide +kernel
theorem dX9_unroll_5 : decode cX9_unroll 5 = .ok (.aload_n 0, 1) := by decide +kernel
theorem dX9_unroll_6 : decode cX9_unroll 6 = .ok (.iconst 0, 1) := by decide +kernel
theorem dX9_unroll_7 : decode cX9_unroll 7 = .ok (.putfield 197, 3) := by decide +kernel
theorem dX9_unroll_10 : decode cX9_unroll 10 = .ok (.aload_n 0, 1) := by decide +kernel
theorem dX9_unroll_11 : decode cX9_unroll 11 = .ok (.iconst 0, 1) := by decide +kernel
theorem dX9_unroll_12 : decode cX9_unroll 12 = .ok (.putfield 200, 3) := by decide +kernel
theorem dX9_unroll_15 : decode cX9_unroll 15 = .ok (.aload_n 0, 1) := by decide +kernel
theorem dX9_unroll_16 : decode cX9_unroll 16 = .ok (.aload_n 0, 1) := by decide +kernel
theorem dX9_unroll_17 : decode cX9_unroll 17 = .ok (.getfield 21, 3) := by decide +kernel
theorem dX9_unroll_20 : decode cX9_unroll 20 = .ok (.iload_n 1, 1) := by decide +kernel
theorem dX9_unroll_21 : decode cX9_unroll 21 = .ok (.iaload, 1) := by decide +kernel
theorem dX9_unroll_22 : decode cX9_unroll 22 = .ok (.invokevirtual 203, 3) := by decide +kernel
theorem dX9_unroll_25 : decode cX9_unroll 25 = .ok (.aload_n 0, 1) := by decide +kernel
theorem dX9_unroll_26 : decode cX9_unroll 26 = .ok (.getfield 197, 3) := by decide +kernel
theorem dX9_unroll_29 : decode cX9_unroll 29 = .ok (.ifCond .le 82, 3) := by decide +kernel
theorem dX9_unroll_32 : decode cX9_unroll 32 = .ok (.aload_n 0, 1) := by decide +kernel
theorem dX9_unroll_33 : decode cX9_unroll 33 = .ok (.getfield 187, 3) := by decide +kernel
theorem dX9_unroll_36 : decode cX9_unroll 36 = .ok (.bipush 9, 2) := by decide +kernel
theorem dX9_unroll_38 : decode cX9_unroll 38 = .ok (.if_icmp .gt 73, 3) := by decide +kernel
theorem dX9_unroll_41 : decode cX9_unroll 41 = .ok (.aload_n 0, 1) := by decide +kernel
theorem dX9_unroll_42 : decode cX9_unroll 42 = .ok (.getfield 64, 3) := by decide +kernel
theorem dX9_unroll_45 : decode cX9_unroll 45 = .ok (.aload_n 0, 1) := by decide +kernel
theorem dX9_unroll_46 : decode cX9_unroll 46 = .ok (.getfield 197, 3) := by decide +kernel
theorem dX9_unroll_49 : decode cX9_unroll 49 = .ok (.iconst 1, 1) := by decide +kernel
theorem dX9_unroll_50 : decode cX9_unroll 50 = .ok (.isub, 1) := by decide +kernel
theorem dX9_unroll_51 : decode cX9_unroll 51 = .ok (.iaload, 1) := by decide +kernel
theorem dX9_unroll_52 : decode cX9_unroll 52 = .ok (.istore_n 3, 1) := by decide +kernel
theorem dX9_unroll_53 : decode cX9_unroll 53 = .ok (.aload_n 0, 1) := by decide +kernel
theorem dX9_unroll_54 : decode cX9_unroll 54 = .ok (.getfield 17, 3) := by decide +kernel
theorem dX9_unroll_57 : decode cX9_unroll 57 = .ok (.iload_n 3, 1) := by decide +kernel
theorem dX9_unroll_58 : decode cX9_unroll 58 = .ok (.iaload, 1) := by decide +kernel
theorem dX9_unroll_59 : decode cX9_unroll 59 = .ok (.bipush 10, 2) := by decide +kernel
theorem dX9_unroll_61 : decode cX9_unroll 61 = .ok (.if_icmp .eq 14, 3) := by decide +kernel
theorem dX9_unroll_64 : decode cX9_unroll 64 = .ok (.aload_n 0, 1) := by decide +kernel
theorem dX9_unroll_65 : decode cX9_unroll 65 = .ok (.getfield 17, 3) := by decide +kernel
theorem dX9_unroll_68 : decode cX9_unroll 68 = .ok (.iload_n 3, 1) := by decide +kernel
theorem dX9_unroll_69 : decode cX9_unroll 69 = .ok (.iaload, 1) := by decide +kernel
theorem dX9_unroll_70 : decode cX9_unroll 70 = .ok (.bipush 12, 2) := by decide +kernel
theorem dX9_unroll_72 : decode cX9_unroll 72 = .ok (.if_icmp .ne 11, 3) := by decide +kernel
theorem dX9_unroll_75 : decode cX9_unroll 75 = .ok (.aload_n 0, 1) := by decide +kernel
theorem dX9_unroll_76 : decode cX9_unroll 76 = .ok (.iload_n 3, 1) := by decide +kernel
theorem dX9_unroll_77 : decode cX9_unroll 77 = .ok (.invokevirtual 206, 3) := by decide +kernel
theorem dX9_unroll_80 : decode cX9_unroll 80 = .ok (.goto 28, 3) := by decide +kernel
theorem dX9_unroll_83 : decode cX9_unroll 83 = .ok (.aload_n 0, 1) := by decide +kernel
theorem dX9_unroll_84 : decode cX9_unroll 84 = .ok (.getfield 17, 3) := by decide +kernel
theorem dX9_unroll_87 : decode cX9_unroll 87 = .ok (.iload_n 3, 1) := by decide +kernel
theorem dX9_unroll_88 : decode cX9_unroll 88 = .ok (.iaload, 1) := by decide +kernel
theorem dX9_unroll_89 : decode cX9_unroll 89 = .ok (.bipush 11, 2) := by decide +kernel
theorem dX9_unroll_91 : decode cX9_unroll 91 = .ok (.if_icmp .ne 11, 3) := by decide +kernel
theorem dX9_unroll_94 : decode cX9_unroll 94 = .ok (.aload_n 0, 1) := by decide +kernel
theorem dX9_unroll_95 : decode cX9_unroll 95 = .ok (.iload_n 3, 1) := by decide +kernel
theorem dX9_unroll_96 : decode cX9_unroll 96 = .ok (.invokevirtual 209, 3) := by decide +kernel
theorem dX9_unroll_99 : decode cX9_unroll 99 = .ok (.goto 9, 3) := by decide +kernel
theorem dX9_unroll_102 : decode cX9_unroll 102 = .ok (.aload_n 0, 1) := by decide +kernel
theorem dX9_unroll_103 : decode cX9_unroll 103 = .ok (.iload_n 3, 1) := by decide +kernel
theorem dX9_unroll_104 : decode cX9_unroll 104 = .ok (.iload_n 1, 1) := by decide +kernel
theorem dX9_unroll_105 : decode cX9_unroll 105 = .ok (.invokevirtual 212, 3) := by decide +kernel
theorem dX9_unroll_108 : decode cX9_unroll 108 = .ok (.goto (-83), 3) := by decide +kernel
theorem dX9_unroll_111 : decode cX9_unroll 111 = .ok (.aload_n 0, 1) := by decide +kernel
theorem dX9_unroll_112 : decode cX9_unroll 112 = .ok (.getfield 187, 3) := by decide +kernel
theorem dX9_unroll_115 : decode cX9_unroll 115 = .ok (.bipush 9, 2) := by decide +kernel
theorem dX9_unroll_117 : decode cX9_unroll 117 = .ok (.if_icmp .le 4, 3) := by decide +kernel
theorem dX9_unroll_120 : decode cX9_unroll 120 = .ok (.return_, 1) := by decide +kernel
theorem dX9_unroll_121 : decode cX9_unroll 121 = .ok (.aload_n 0, 1) := by decide +kernel
theorem dX9_unroll_122 : decode cX9_unroll 122 = .ok (.getfield 61, 3) := by decide +kernel
theorem dX9_unroll_125 : decode cX9_unroll 125 = .ok (.iload_n 1, 1) := by decide +kernel
theorem dX9_unroll_126 : decode cX9_unroll 126 = .ok (.aload_n 0, 1) := by decide +kernel
theorem dX9_unroll_127 : decode cX9_unroll 127 = .ok (.getfield 70, 3) := by decide +kernel
theorem dX9_unroll_130 : decode cX9_unroll 130 = .ok (.iconst 0, 1) := by decide +kernel
theorem dX9_unroll_131 : decode cX9_unroll 131 = .ok (.iaload, 1) := by decide +kernel
theorem dX9_unroll_132 : decode cX9_unroll 132 = .ok (.iastore, 1) := by decide +kernel
theorem dX9_unroll_133 : decode cX9_unroll 133 = .ok (.iload_n 2, 1) := by decide +kernel
theorem dX9_unroll_134 : decode cX9_unroll 134 = .ok (.istore_n 3, 1) := by decide +kernel
theorem dX9_unroll_135 : decode cX9_unroll 135 = .ok (.iload_n 3, 1) := by decide +kernel
theorem dX9_unroll_136 : decode cX9_unroll 136 = .ok (.aload_n 0, 1) := by decide +kernel
theorem dX9_unroll_137 : decode cX9_unroll 137 = .ok (.getfield 187, 3) := by decide +kernel
theorem dX9_unroll_140 : decode cX9_unroll 140 = .ok (.if_icmp .ge 34, 3) := by decide +kernel
theorem dX9_unroll_143 : decode cX9_unroll 143 = .ok (.aload_n 0, 1) := by decide +kernel
theorem dX9_unroll_144 : decode cX9_unroll 144 = .ok (.getfield 57, 3) := by decide +kernel
theorem dX9_unroll_147 : decode cX9_unroll 147 = .ok (.iload_n 3, 1) := by decide +kernel
theorem dX9_unroll_148 : decode cX9_unroll 148 = .ok (.aload_n 0, 1) := by decide +kernel
theorem dX9_unroll_149 : decode cX9_unroll 149 = .ok (.getfield 73, 3) := by decide +kernel
theorem dX9_unroll_152 : decode cX9_unroll 152 = .ok (.iconst 0, 1) := by decide +kernel
theorem dX9_unroll_153 : decode cX9_unroll 153 = .ok (.iaload, 1) := by decide +kernel
theorem dX9_unroll_154 : decode cX9_unroll 154 = .ok (.iload_n 3, 1) := by decide +kernel
theorem dX9_unroll_155 : decode cX9_unroll 155 = .ok (.ishr, 1) := by decide +kernel
theorem dX9_unroll_156 : decode cX9_unroll 156 = .ok (.iconst 1, 1) := by decide +kernel
theorem dX9_unroll_157 : decode cX9_unroll 157 = .ok (.iand, 1) := by decide +kernel
theorem dX9_unroll_158 : decode cX9_unroll 158 = .ok (.iconst 1, 1) := by decide +kernel
theorem dX9_unroll_159 : decode cX9_unroll 159 = .ok (.if_icmp .ne 7, 3) := by decide +kernel
theorem dX9_unroll_162 : decode cX9_unroll 162 = .ok (.iconst 1, 1) := by decide +kernel
theorem dX9_unroll_163 : decode cX9_unroll 163 = .ok (.goto 4, 3) := by decide +kernel
theorem dX9_unroll_166 : decode cX9_unroll 166 = .ok (.iconst 0, 1) := by decide +kernel
theorem dX9_unroll_167 : decode cX9_unroll 167 = .ok (.bastore, 1) := by decide +kernel
theorem dX9_unroll_168 : decode cX9_unroll 168 = .ok (.iinc 3 1, 3) := by decide +kernel
theorem dX9_unroll_171 : decode cX9_unroll 171 = .ok (.goto (-36), 3) := by decide +kernel
theorem dX9_unroll_174 : decode cX9_unroll 174 = .ok (.return_, 1) := by decide +kernel
theorem dX9_place_0 : decode cX9_place 0 = .ok (.aload_n 0, 1) := by decide +kernel
theorem dX9_place_1 : decode cX9_place 1 = .ok (.dup, 1) := by decide +kernel
theorem dX9_place_2 : decode cX9_place 2 = .ok (.getfield 197, 3) := by decide +kernel
theorem dX9_place_5 : decode cX9_place 5 = .ok (.iconst 1, 1) := by decide +kernel
theorem dX9_place_6 : decode cX9_place 6 = .ok (.isub, 1) := by decide +kernel
theorem dX9_place_7 : decode cX9_place 7 = .ok (.putfield 197, 3) := by decide +kernel
theorem dX9_place_10 : decode cX9_place 10 = .ok (.aload_n 0, 1) := by decide +kernel
theorem dX9_place_11 : decode cX9_place 11 = .ok (.getfield 48, 3) := by decide +kernel
theorem dX9_place_14 : decode cX9_place 14 = .ok (.aload_n 0, 1) := by decide +kernel
theorem dX9_place_15 : decode cX9_place 15 = .ok (.getfield 187, 3) := by decide +kernel
theorem dX9_place_18 : decode cX9_place 18 = .ok (.iload_n 1, 1) := by decide +kernel
theorem dX9_place_19 : decode cX9_place 19 = .ok (.iastore, 1) := by decide +kernel
theorem dX9_place_20 : decode cX9_place 20 = .ok (.aload_n 0, 1) := by decide +kernel
theorem dX9_place_21 : decode cX9_place 21 = .ok (.getfield 51, 3) := by decide +kernel
theorem dX9_place_24 : decode cX9_place 24 = .ok (.aload_n 0, 1) := by decide +kernel
theorem dX9_place_25 : decode cX9_place 25 = .ok (.getfield 187, 3) := by decide +kernel
theorem dX9_place_28 : decode cX9_place 28 = .ok (.iload_n 2, 1) := by decide +kernel
theorem dX9_place_29 : decode cX9_place 29 = .ok (.iastore, 1) := by decide +kernel
theorem dX9_place_30 : decode cX9_place 30 = .ok (.aload_n 0, 1) := by decide +kernel
theorem dX9_place_31 : decode cX9_place 31 = .ok (.getfield 54, 3) := by decide +kernel
theorem dX9_place_34 : decode cX9_place 34 = .ok (.aload_n 0, 1) := by decide +kernel
theorem dX9_place_35 : decode cX9_place 35 = .ok (.getfield 187, 3) := by decide +kernel
theorem dX9_place_38 : decode cX9_place 38 = .ok (.iconst 0, 1) := by decide +kernel
theorem dX9_place_39 : decode cX9_place 39 = .ok (.iastore, 1) := by decide +kernel
theorem dX9_place_40 : decode cX9_place 40 = .ok (.aload_n 0, 1) := by decide +kernel
theorem dX9_place_41 : decode cX9_place 41 = .ok (.iconst 1, 1) := by decide +kernel
theorem dX9_place_42 : decode cX9_place 42 = .ok (.aload_n 0, 1) := by decide +kernel
theorem dX9_place_43 : decode cX9_place 43 = .ok (.getfield 187, 3) := by decide +kernel
theorem dX9_place_46 : decode cX9_place 46 = .ok (.ishl, 1) := by decide +kernel
theorem dX9_place_47 : decode cX9_place 47 = .ok (.iconst 1, 1) := by decide +kernel
theorem dX9_place_48 : decode cX9_place 48 = .ok (.aload_n 0, 1) := by decide +kernel
theorem dX9_place_49 : decode cX9_place 49 = .ok (.getfield 187, 3) := by decide +kernel
theorem dX9_place_52 : decode cX9_place 52 = .ok (.ishl, 1) := by decide +kernel
theorem dX9_place_53 : decode cX9_place 53 = .ok (.invokevirtual 215, 3) := by decide +kernel
theorem dX9_place_56 : decode cX9_place 56 = .ok (.aload_n 0, 1) := by decide +kernel
theorem dX9_place_57 : decode cX9_place 57 = .ok (.dup, 1) := by decide +kernel
theorem dX9_place_58 : decode cX9_place 58 = .ok (.getfield 187, 3) := by decide +kernel
theorem dX9_place_61 : decode cX9_place 61 = .ok (.iconst 1, 1) := by decide +kernel
theorem dX9_place_62 : decode cX9_place 62 = .ok (.iadd, 1) := by decide +kernel
theorem dX9_place_63 : decode cX9_place 63 = .ok (.putfield 187, 3) := by decide +kernel
theorem dX9_place_66 : decode cX9_place 66 = .ok (.return_, 1) := by decide +kernel
theorem dX9_follow_0 : decode cX9_follow 0 = .ok (.iconst 0, 1) := by decide +kernel
theorem dX9_follow_1 : decode cX9_follow 1 = .ok (.istore_n 3, 1) := by decide +kernel
theorem dX9_follow_2 : decode cX9_follow 2 = .ok (.iload_n 3, 1) := by decide +kernel
theorem dX9_follow_3 : decode cX9_follow 3 = .ok (.aload_n 0, 1) := by decide +kernel
theorem dX9_follow_4 : decode cX9_follow 4 = .ok (.getfield 187, 3) := by decide +kernel
theorem dX9_follow_7 : decode cX9_follow 7 = .ok (.if_icmp .ge 28, 3) := by decide +kernel
theorem dX9_follow_10 : decode cX9_follow 10 = .ok (.iload_n 1, 1) := by decide +kernel
theorem dX9_follow_11 : decode cX9_follow 11 = .ok (.iload_n 3, 1) := by decide +kernel
theorem dX9_follow_12 : decode cX9_follow 12 = .ok (.ishr, 1) := by decide +kernel
theorem dX9_follow_13 : decode cX9_follow 13 = .ok (.iconst 1, 1) := by decide +kernel
theorem dX9_follow_14 : decode cX9_follow 14 = .ok (.iand, 1) := by decide +kernel
theorem dX9_follow_15 : decode cX9_follow 15 = .ok (.iconst 1, 1) := by decide +kernel
theorem dX9_follow_16 : decode cX9_follow 16 = .ok (.if_icmp .ne 13, 3) := by decide +kernel
theorem dX9_follow_19 : decode cX9_follow 19 = .ok (.aload_n 0, 1) := by decide +kernel
theorem dX9_follow_20 : decode cX9_follow 20 = .ok (.getfield 54, 3) := by decide +kernel
theorem dX9_follow_23 : decode cX9_follow 23 = .ok (.iload_n 3, 1) := by decide +kernel
theorem dX9_follow_24 : decode cX9_follow 24 = .ok (.dup2, 1) := by decide +kernel
theorem dX9_follow_25 : decode cX9_follow 25 = .ok (.iaload, 1) := by decide +kernel
theorem dX9_follow_26 : decode cX9_follow 26 = .ok (.iload_n 2, 1) := by decide +kernel
theorem dX9_follow_27 : decode cX9_follow 27 = .ok (.ior, 1) := by decide +kernel
theorem dX9_follow_28 : decode cX9_follow 28 = .ok (.iastore, 1) := by decide +kernel
theorem dX9_follow_29 : decode cX9_follow 29 = .ok (.iinc 3 1, 3) := by decide +kernel
theorem dX9_follow_32 : decode cX9_follow 32 = .ok (.goto (-30), 3) := by decide +kernel
theorem dX9_follow_35 : decode cX9_follow 35 = .ok (.return_, 1) := by decide +kernel
theorem dX9_list_0 : decode cX9_list 0 = .ok (.aload_n 0, 1) := by decide +kernel
theorem dX9_list_1 : decode cX9_list 1 = .ok (.getfield 67, 3) := by decide +kernel
theorem dX9_list_4 : decode cX9_list 4 = .ok (.aload_n 0, 1) := by decide +kernel
theorem dX9_list_5 : decode cX9_list 5 = .ok (.getfield 197, 3) := by decide +kernel
theorem dX9_list_8 : decode cX9_list 8 = .ok (.iconst 1, 1) := by decide +kernel
theorem dX9_list_9 : decode cX9_list 9 = .ok (.isub, 1) := by decide +kernel
theorem dX9_list_10 : decode cX9_list 10 = .ok (.iaload, 1) := by decide +kernel
theorem dX9_list_11 : decode cX9_list 11 = .ok (.istore_n 2, 1) := by decide +kernel
theorem dX9_list_12 : decode cX9_list 12 = .ok (.iload_n 2, 1) := by decide +kernel
theorem dX9_list_13 : decode cX9_list 13 = .ok (.ifCond .ge 12, 3) := by decide +kernel
theorem dX9_list_16 : decode cX9_list 16 = .ok (.aload_n 0, 1) := by decide +kernel
theorem dX9_list_17 : decode cX9_list 17 = .ok (.getfield 21, 3) := by decide +kernel
theorem dX9_list_20 : decode cX9_list 20 = .ok (.iload_n 1, 1) := by decide +kernel
theorem dX9_list_21 : decode cX9_list 21 = .ok (.iaload, 1) := by decide +kernel
theorem dX9_list_22 : decode cX9_list 22 = .ok (.goto 9, 3) := by decide +kernel
theorem dX9_list_25 : decode cX9_list 25 = .ok (.aload_n 0, 1) := by decide +kernel
theorem dX9_list_26 : decode cX9_list 26 = .ok (.getfield 27, 3) := by decide +kernel
theorem dX9_list_29 : decode cX9_list 29 = .ok (.iload_n 2, 1) := by decide +kernel
theorem dX9_list_30 : decode cX9_list 30 = .ok (.iaload, 1) := by decide +kernel
theorem dX9_list_31 : decode cX9_list 31 = .ok (.istore_n 3, 1) := by decide +kernel
theorem dX9_list_32 : decode cX9_list 32 = .ok (.iload_n 2, 1) := by decide +kernel
theorem dX9_list_33 : decode cX9_list 33 = .ok (.ifCond .lt 154, 3) := by decide +kernel
theorem dX9_list_36 : decode cX9_list 36 = .ok (.iload_n 2, 1) := by decide +kernel
theorem dX9_list_37 : decode cX9_list 37 = .ok (.aload_n 0, 1) := by decide +kernel
theorem dX9_list_38 : decode cX9_list 38 = .ok (.getfield 21, 3) := by decide +kernel
theorem dX9_list_41 : decode cX9_list 41 = .ok (.iload_n 1, 1) := by decide +kernel
theorem dX9_list_42 : decode cX9_list 42 = .ok (.iaload, 1) := by decide +kernel
theorem dX9_list_43 : decode cX9_list 43 = .ok (.if_icmp .eq 144, 3) := by decide +kernel
theorem dX9_list_46 : decode cX9_list 46 = .ok (.aload_n 0, 1) := by decide +kernel
theorem dX9_list_47 : decode cX9_list 47 = .ok (.getfield 200, 3) := by decide +kernel
theorem dX9_list_50 : decode cX9_list 50 = .ok (.iconst 2, 1) := by decide +kernel
theorem dX9_list_51 : decode cX9_list 51 = .ok (.isub, 1) := by decide +kernel
theorem dX9_list_52 : decode cX9_list 52 = .ok (.istore 4, 2) := by decide +kernel
theorem dX9_list_54 : decode cX9_list 54 = .ok (.aload_n 0, 1) := by decide +kernel
theorem dX9_list_55 : decode cX9_list 55 = .ok (.getfield 200, 3) := by decide +kernel
theorem dX9_list_58 : decode cX9_list 58 = .ok (.iconst 1, 1) := by decide +kernel
theorem dX9_list_59 : decode cX9_list 59 = .ok (.isub, 1) := by decide +kernel
theorem dX9_list_60 : decode cX9_list 60 = .ok (.istore 5, 2) := by decide +kernel
theorem dX9_list_62 : decode cX9_list 62 = .ok (.aload_n 0, 1) := by decide +kernel
theorem dX9_list_63 : decode cX9_list 63 = .ok (.getfield 17, 3) := by decide +kernel
theorem dX9_list_66 : decode cX9_list 66 = .ok (.iload_n 1, 1) := by decide +kernel
theorem dX9_list_67 : decode cX9_list 67 = .ok (.iaload, 1) := by decide +kernel
theorem dX9_list_68 : decode cX9_list 68 = .ok (.bipush 10, 2) := by decide +kernel
theorem dX9_list_70 : decode cX9_list 70 = .ok (.if_icmp .ne 21, 3) := by decide +kernel
theorem dX9_list_73 : decode cX9_list 73 = .ok (.aload_n 0, 1) := by decide +kernel
theorem dX9_list_74 : decode cX9_list 74 = .ok (.aload_n 0, 1) := by decide +kernel
theorem dX9_list_75 : decode cX9_list 75 = .ok (.getfield 73, 3) := by decide +kernel
theorem dX9_list_78 : decode cX9_list 78 = .ok (.iload 4, 2) := by decide +kernel
theorem dX9_list_80 : decode cX9_list 80 = .ok (.iaload, 1) := by decide +kernel
theorem dX9_list_81 : decode cX9_list 81 = .ok (.aload_n 0, 1) := by decide +kernel
theorem dX9_list_82 : decode cX9_list 82 = .ok (.getfield 70, 3) := by decide +kernel
theorem dX9_list_85 : decode cX9_list 85 = .ok (.iload 5, 2) := by decide +kernel
theorem dX9_list_87 : decode cX9_list 87 = .ok (.iaload, 1) := by decide +kernel
theorem dX9_list_88 : decode cX9_list 88 = .ok (.invokevirtual 218, 3) := by decide +kernel
theorem dX9_list_91 : decode cX9_list 91 = .ok (.aload_n 0, 1) := by decide +kernel
theorem dX9_list_92 : decode cX9_list 92 = .ok (.getfield 70, 3) := by decide +kernel
theorem dX9_list_95 : decode cX9_list 95 = .ok (.iload 4, 2) := by decide +kernel
theorem dX9_list_97 : decode cX9_list 97 = .ok (.aload_n 0, 1) := by decide +kernel
theorem dX9_list_98 : decode cX9_list 98 = .ok (.getfield 17, 3) := by decide +kernel
theorem dX9_list_101 : decode cX9_list 101 = .ok (.iload_n 1, 1) := by decide +kernel
theorem dX9_list_102 : decode cX9_list 102 = .ok (.iaload, 1) := by decide +kernel
theorem dX9_list_103 : decode cX9_list 103 = .ok (.bipush 10, 2) := by decide +kernel
theorem dX9_list_105 : decode cX9_list 105 = .ok (.if_icmp .ne 13, 3) := by decide +kernel
theorem dX9_list_108 : decode cX9_list 108 = .ok (.aload_n 0, 1) := by decide +kernel
theorem dX9_list_109 : decode cX9_list 109 = .ok (.getfield 70, 3) := by decide +kernel
theorem dX9_list_112 : decode cX9_list 112 = .ok (.iload 4, 2) := by decide +kernel
theorem dX9_list_114 : decode cX9_list 114 = .ok (.iaload, 1) := by decide +kernel
theorem dX9_list_115 : decode cX9_list 115 = .ok (.goto 18, 3) := by decide +kernel
theorem dX9_list_118 : decode cX9_list 118 = .ok (.aload_n 0, 1) := by decide +kernel
theorem dX9_list_119 : decode cX9_list 119 = .ok (.getfield 70, 3) := by decide +kernel
theorem dX9_list_122 : decode cX9_list 122 = .ok (.iload 4, 2) := by decide +kernel
theorem dX9_list_124 : decode cX9_list 124 = .ok (.iaload, 1) := by decide +kernel
theorem dX9_list_125 : decode cX9_list 125 = .ok (.aload_n 0, 1) := by decide +kernel
theorem dX9_list_126 : decode cX9_list 126 = .ok (.getfield 70, 3) := by decide +kernel
theorem dX9_list_129 : decode cX9_list 129 = .ok (.iload 5, 2) := by decide +kernel
theorem dX9_list_131 : decode cX9_list 131 = .ok (.iaload, 1) := by decide +kernel
theorem dX9_list_132 : decode cX9_list 132 = .ok (.ior, 1) := by decide +kernel
theorem dX9_list_133 : decode cX9_list 133 = .ok (.iastore, 1) := by decide +kernel
theorem dX9_list_134 : decode cX9_list 134 = .ok (.aload_n 0, 1) := by decide +kernel
theorem dX9_list_135 : decode cX9_list 135 = .ok (.getfield 73, 3) := by decide +kernel
theorem dX9_list_138 : decode cX9_list 138 = .ok (.iload 4, 2) := by decide +kernel
theorem dX9_list_140 : decode cX9_list 140 = .ok (.aload_n 0, 1) := by decide +kernel
theorem dX9_list_141 : decode cX9_list 141 = .ok (.getfield 17, 3) := by decide +kernel
theorem dX9_list_144 : decode cX9_list 144 = .ok (.iload_n 1, 1) := by decide +kernel
theorem dX9_list_145 : decode cX9_list 145 = .ok (.iaload, 1) := by decide +kernel
theorem dX9_list_146 : decode cX9_list 146 = .ok (.bipush 10, 2) := by decide +kernel
theorem dX9_list_148 : decode cX9_list 148 = .ok (.if_icmp .ne 13, 3) := by decide +kernel
theorem dX9_list_151 : decode cX9_list 151 = .ok (.aload_n 0, 1) := by decide +kernel
theorem dX9_list_152 : decode cX9_list 152 = .ok (.getfield 73, 3) := by decide +kernel
theorem dX9_list_155 : decode cX9_list 155 = .ok (.iload 5, 2) := by decide +kernel
theorem dX9_list_157 : decode cX9_list 157 = .ok (.iaload, 1) := by decide +kernel
theorem dX9_list_158 : decode cX9_list 158 = .ok (.goto 18, 3) := by decide +kernel
theorem dX9_list_161 : decode cX9_list 161 = .ok (.aload_n 0, 1) := by decide +kernel
theorem dX9_list_162 : decode cX9_list 162 = .ok (.getfield 73, 3) := by decide +kernel
theorem dX9_list_165 : decode cX9_list 165 = .ok (.iload 4, 2) := by decide +kernel
theorem dX9_list_167 : decode cX9_list 167 = .ok (.iaload, 1) := by decide +kernel
theorem dX9_list_168 : decode cX9_list 168 = .ok (.aload_n 0, 1) := by decide +kernel
theorem dX9_list_169 : decode cX9_list 169 = .ok (.getfield 73, 3) := by decide +kernel
theorem dX9_list_172 : decode cX9_list 172 = .ok (.iload 5, 2) := by decide +kernel
theorem dX9_list_174 : decode cX9_list 174 = .ok (.iaload, 1) := by decide +kernel
theorem dX9_list_175 : decode cX9_list 175 = .ok (.ior, 1) := by decide +kernel
theorem dX9_list_176 : decode cX9_list 176 = .ok (.iastore, 1) := by decide +kernel
theorem dX9_list_177 : decode cX9_list 177 = .ok (.aload_n 0, 1) := by decide +kernel
theorem dX9_list_178 : decode cX9_list 178 = .ok (.dup, 1) := by decide +kernel
theorem dX9_list_179 : decode cX9_list 179 = .ok (.getfield 200, 3) := by decide +kernel
theorem dX9_list_182 : decode cX9_list 182 = .ok (.iconst 1, 1) := by decide +kernel
theorem dX9_list_183 : decode cX9_list 183 = .ok (.isub, 1) := by decide +kernel
theorem dX9_list_184 : decode cX9_list 184 = .ok (.putfield 200, 3) := by decide +kernel
theorem dX9_list_187 : decode cX9_list 187 = .ok (.aload_n 0, 1) := by decide +kernel
theorem dX9_list_188 : decode cX9_list 188 = .ok (.getfield 67, 3) := by decide +kernel
theorem dX9_list_191 : decode cX9_list 191 = .ok (.aload_n 0, 1) := by decide +kernel
theorem dX9_list_192 : decode cX9_list 192 = .ok (.getfield 197, 3) := by decide +kernel
theorem dX9_list_195 : decode cX9_list 195 = .ok (.iconst 1, 1) := by decide +kernel
theorem dX9_list_196 : decode cX9_list 196 = .ok (.isub, 1) := by decide +kernel
theorem dX9_list_197 : decode cX9_list 197 = .ok (.iload_n 3, 1) := by decide +kernel
theorem dX9_list_198 : decode cX9_list 198 = .ok (.iastore, 1) := by decide +kernel
theorem dX9_list_199 : decode cX9_list 199 = .ok (.iload_n 3, 1) := by decide +kernel
theorem dX9_list_200 : decode cX9_list 200 = .ok (.ifCond .lt 11, 3) := by decide +kernel
theorem dX9_list_203 : decode cX9_list 203 = .ok (.aload_n 0, 1) := by decide +kernel
theorem dX9_list_204 : decode cX9_list 204 = .ok (.iload_n 3, 1) := by decide +kernel
theorem dX9_list_205 : decode cX9_list 205 = .ok (.invokevirtual 203, 3) := by decide +kernel
theorem dX9_list_208 : decode cX9_list 208 = .ok (.goto 13, 3) := by decide +kernel
theorem dX9_list_211 : decode cX9_list 211 = .ok (.aload_n 0, 1) := by decide +kernel
theorem dX9_list_212 : decode cX9_list 212 = .ok (.dup, 1) := by decide +kernel
theorem dX9_list_213 : decode cX9_list 213 = .ok (.getfield 197, 3) := by decide +kernel
theorem dX9_list_216 : decode cX9_list 216 = .ok (.iconst 1, 1) := by decide +kernel
theorem dX9_list_217 : decode cX9_list 217 = .ok (.isub, 1) := by decide +kernel
theorem dX9_list_218 : decode cX9_list 218 = .ok (.putfield 197, 3) := by decide +kernel
theorem dX9_list_221 : decode cX9_list 221 = .ok (.return_, 1) := by decide +kernel
theorem dX9_copy_0 : decode cX9_copy 0 = .ok (.aload_n 0, 1) := by decide +kernel
theorem dX9_copy_1 : decode cX9_copy 1 = .ok (.getfield 67, 3) := by decide +kernel
theorem dX9_copy_4 : decode cX9_copy 4 = .ok (.aload_n 0, 1) := by decide +kernel
theorem dX9_copy_5 : decode cX9_copy 5 = .ok (.getfield 197, 3) := by decide +kernel
theorem dX9_copy_8 : decode cX9_copy 8 = .ok (.iconst 1, 1) := by decide +kernel
theorem dX9_copy_9 : decode cX9_copy 9 = .ok (.isub, 1) := by decide +kernel
theorem dX9_copy_10 : decode cX9_copy 10 = .ok (.iaload, 1) := by decide +kernel
theorem dX9_copy_11 : decode cX9_copy 11 = .ok (.istore_n 2, 1) := by decide +kernel
theorem dX9_copy_12 : decode cX9_copy 12 = .ok (.aload_n 0, 1) := by decide +kernel
theorem dX9_copy_13 : decode cX9_copy 13 = .ok (.getfield 33, 3) := by decide +kernel
theorem dX9_copy_16 : decode cX9_copy 16 = .ok (.iload_n 1, 1) := by decide +kernel
theorem dX9_copy_17 : decode cX9_copy 17 = .ok (.iaload, 1) := by decide +kernel
theorem dX9_copy_18 : decode cX9_copy 18 = .ok (.ifCond .ne 7, 3) := by decide +kernel
theorem dX9_copy_21 : decode cX9_copy 21 = .ok (.iconst 1, 1) := by decide +kernel
theorem dX9_copy_22 : decode cX9_copy 22 = .ok (.goto 9, 3) := by decide +kernel
theorem dX9_copy_25 : decode cX9_copy 25 = .ok (.aload_n 0, 1) := by decide +kernel
theorem dX9_copy_26 : decode cX9_copy 26 = .ok (.getfield 33, 3) := by decide +kernel
theorem dX9_copy_29 : decode cX9_copy 29 = .ok (.iload_n 1, 1) := by decide +kernel
theorem dX9_copy_30 : decode cX9_copy 30 = .ok (.iaload, 1) := by decide +kernel
theorem dX9_copy_31 : decode cX9_copy 31 = .ok (.istore_n 3, 1) := by decide +kernel
theorem dX9_copy_32 : decode cX9_copy 32 = .ok (.iload_n 2, 1) := by decide +kernel
theorem dX9_copy_33 : decode cX9_copy 33 = .ok (.iconst 1, 1) := by decide +kernel
theorem dX9_copy_34 : decode cX9_copy 34 = .ok (.if_icmp .ne 99, 3) := by decide +kernel
theorem dX9_copy_37 : decode cX9_copy 37 = .ok (.aload_n 0, 1) := by decide +kernel
theorem dX9_copy_38 : decode cX9_copy 38 = .ok (.getfield 76, 3) := by decide +kernel
theorem dX9_copy_41 : decode cX9_copy 41 = .ok (.aload_n 0, 1) := by decide +kernel
theorem dX9_copy_42 : decode cX9_copy 42 = .ok (.getfield 200, 3) := by decide +kernel
theorem dX9_copy_45 : decode cX9_copy 45 = .ok (.iconst 1, 1) := by decide +kernel
theorem dX9_copy_46 : decode cX9_copy 46 = .ok (.isub, 1) := by decide +kernel
theorem dX9_copy_47 : decode cX9_copy 47 = .ok (.aload_n 0, 1) := by decide +kernel
theorem dX9_copy_48 : decode cX9_copy 48 = .ok (.getfield 73, 3) := by decide +kernel
theorem dX9_copy_51 : decode cX9_copy 51 = .ok (.aload_n 0, 1) := by decide +kernel
theorem dX9_copy_52 : decode cX9_copy 52 = .ok (.getfield 200, 3) := by decide +kernel
theorem dX9_copy_55 : decode cX9_copy 55 = .ok (.iconst 1, 1) := by decide +kernel
theorem dX9_copy_56 : decode cX9_copy 56 = .ok (.isub, 1) := by decide +kernel
theorem dX9_copy_57 : decode cX9_copy 57 = .ok (.iaload, 1) := by decide +kernel
theorem dX9_copy_58 : decode cX9_copy 58 = .ok (.iastore, 1) := by decide +kernel
theorem dX9_copy_59 : decode cX9_copy 59 = .ok (.aload_n 0, 1) := by decide +kernel
theorem dX9_copy_60 : decode cX9_copy 60 = .ok (.getfield 73, 3) := by decide +kernel
theorem dX9_copy_63 : decode cX9_copy 63 = .ok (.aload_n 0, 1) := by decide +kernel
theorem dX9_copy_64 : decode cX9_copy 64 = .ok (.getfield 200, 3) := by decide +kernel
theorem dX9_copy_67 : decode cX9_copy 67 = .ok (.iconst 1, 1) := by decide +kernel
theorem dX9_copy_68 : decode cX9_copy 68 = .ok (.isub, 1) := by decide +kernel
theorem dX9_copy_69 : decode cX9_copy 69 = .ok (.aload_n 0, 1) := by decide +kernel
theorem dX9_copy_70 : decode cX9_copy 70 = .ok (.getfield 30, 3) := by decide +kernel
theorem dX9_copy_73 : decode cX9_copy 73 = .ok (.iload_n 1, 1) := by decide +kernel
theorem dX9_copy_74 : decode cX9_copy 74 = .ok (.iaload, 1) := by decide +kernel
theorem dX9_copy_75 : decode cX9_copy 75 = .ok (.iconst 1, 1) := by decide +kernel
theorem dX9_copy_76 : decode cX9_copy 76 = .ok (.if_icmp .le 7, 3) := by decide +kernel
theorem dX9_copy_79 : decode cX9_copy 79 = .ok (.iconst 0, 1) := by decide +kernel
theorem dX9_copy_80 : decode cX9_copy 80 = .ok (.goto 14, 3) := by decide +kernel
theorem dX9_copy_83 : decode cX9_copy 83 = .ok (.aload_n 0, 1) := by decide +kernel
theorem dX9_copy_84 : decode cX9_copy 84 = .ok (.getfield 73, 3) := by decide +kernel
theorem dX9_copy_87 : decode cX9_copy 87 = .ok (.aload_n 0, 1) := by decide +kernel
theorem dX9_copy_88 : decode cX9_copy 88 = .ok (.getfield 200, 3) := by decide +kernel
theorem dX9_copy_91 : decode cX9_copy 91 = .ok (.iconst 1, 1) := by decide +kernel
theorem dX9_copy_92 : decode cX9_copy 92 = .ok (.isub, 1) := by decide +kernel
theorem dX9_copy_93 : decode cX9_copy 93 = .ok (.iaload, 1) := by decide +kernel
theorem dX9_copy_94 : decode cX9_copy 94 = .ok (.iastore, 1) := by decide +kernel
theorem dX9_copy_95 : decode cX9_copy 95 = .ok (.aload_n 0, 1) := by decide +kernel
theorem dX9_copy_96 : decode cX9_copy 96 = .ok (.getfield 33, 3) := by decide +kernel
theorem dX9_copy_99 : decode cX9_copy 99 = .ok (.iload_n 1, 1) := by decide +kernel
theorem dX9_copy_100 : decode cX9_copy 100 = .ok (.iaload, 1) := by decide +kernel
theorem dX9_copy_101 : decode cX9_copy 101 = .ok (.ifCond .ne 137, 3) := by decide +kernel
theorem dX9_copy_104 : decode cX9_copy 104 = .ok (.aload_n 0, 1) := by decide +kernel
theorem dX9_copy_105 : decode cX9_copy 105 = .ok (.aload_n 0, 1) := by decide +kernel
theorem dX9_copy_106 : decode cX9_copy 106 = .ok (.getfield 76, 3) := by decide +kernel
theorem dX9_copy_109 : decode cX9_copy 109 = .ok (.aload_n 0, 1) := by decide +kernel
theorem dX9_copy_110 : decode cX9_copy 110 = .ok (.getfield 200, 3) := by decide +kernel
theorem dX9_copy_113 : decode cX9_copy 113 = .ok (.iconst 1, 1) := by decide +kernel
theorem dX9_copy_114 : decode cX9_copy 114 = .ok (.isub, 1) := by decide +kernel
theorem dX9_copy_115 : decode cX9_copy 115 = .ok (.iaload, 1) := by decide +kernel
theorem dX9_copy_116 : decode cX9_copy 116 = .ok (.aload_n 0, 1) := by decide +kernel
theorem dX9_copy_117 : decode cX9_copy 117 = .ok (.getfield 70, 3) := by decide +kernel
theorem dX9_copy_120 : decode cX9_copy 120 = .ok (.aload_n 0, 1) := by decide +kernel
theorem dX9_copy_121 : decode cX9_copy 121 = .ok (.getfield 200, 3) := by decide +kernel
theorem dX9_copy_124 : decode cX9_copy 124 = .ok (.iconst 1, 1) := by decide +kernel
theorem dX9_copy_125 : decode cX9_copy 125 = .ok (.isub, 1) := by decide +kernel
theorem dX9_copy_126 : decode cX9_copy 126 = .ok (.iaload, 1) := by decide +kernel
theorem dX9_copy_127 : decode cX9_copy 127 = .ok (.invokevirtual 218, 3) := by decide +kernel
theorem dX9_copy_130 : decode cX9_copy 130 = .ok (.goto 108, 3) := by decide +kernel
theorem dX9_copy_133 : decode cX9_copy 133 = .ok (.iload_n 2, 1) := by decide +kernel
theorem dX9_copy_134 : decode cX9_copy 134 = .ok (.iconst 1, 1) := by decide +kernel
theorem dX9_copy_135 : decode cX9_copy 135 = .ok (.if_icmp .le 103, 3) := by decide +kernel
theorem dX9_copy_138 : decode cX9_copy 138 = .ok (.aload_n 0, 1) := by decide +kernel
theorem dX9_copy_139 : decode cX9_copy 139 = .ok (.getfield 200, 3) := by decide +kernel
theorem dX9_copy_142 : decode cX9_copy 142 = .ok (.iconst 2, 1) := by decide +kernel
theorem dX9_copy_143 : decode cX9_copy 143 = .ok (.isub, 1) := by decide +kernel
theorem dX9_copy_144 : decode cX9_copy 144 = .ok (.istore 4, 2) := by decide +kernel
theorem dX9_copy_146 : decode cX9_copy 146 = .ok (.aload_n 0, 1) := by decide +kernel
theorem dX9_copy_147 : decode cX9_copy 147 = .ok (.getfield 200, 3) := by decide +kernel
theorem dX9_copy_150 : decode cX9_copy 150 = .ok (.iconst 1, 1) := by decide +kernel
theorem dX9_copy_151 : decode cX9_copy 151 = .ok (.isub, 1) := by decide +kernel
theorem dX9_copy_152 : decode cX9_copy 152 = .ok (.istore 5, 2) := by decide +kernel
theorem dX9_copy_154 : decode cX9_copy 154 = .ok (.aload_n 0, 1) := by decide +kernel
theorem dX9_copy_155 : decode cX9_copy 155 = .ok (.aload_n 0, 1) := by decide +kernel
theorem dX9_copy_156 : decode cX9_copy 156 = .ok (.getfield 76, 3) := by decide +kernel
theorem dX9_copy_159 : decode cX9_copy 159 = .ok (.iload 4, 2) := by decide +kernel
theorem dX9_copy_161 : decode cX9_copy 161 = .ok (.iaload, 1) := by decide +kernel
theorem dX9_copy_162 : decode cX9_copy 162 = .ok (.aload_n 0, 1) := by decide +kernel
theorem dX9_copy_163 : decode cX9_copy 163 = .ok (.getfield 70, 3) := by decide +kernel
theorem dX9_copy_166 : decode cX9_copy 166 = .ok (.iload 5, 2) := by decide +kernel
theorem dX9_copy_168 : decode cX9_copy 168 = .ok (.iaload, 1) := by decide +kernel
theorem dX9_copy_169 : decode cX9_copy 169 = .ok (.invokevirtual 218, 3) := by decide +kernel
theorem dX9_copy_172 : decode cX9_copy 172 = .ok (.aload_n 0, 1) := by decide +kernel
theorem dX9_copy_173 : decode cX9_copy 173 = .ok (.getfield 76, 3) := by decide +kernel
theorem dX9_copy_176 : decode cX9_copy 176 = .ok (.iload 4, 2) := by decide +kernel
theorem dX9_copy_178 : decode cX9_copy 178 = .ok (.aload_n 0, 1) := by decide +kernel
theorem dX9_copy_179 : decode cX9_copy 179 = .ok (.getfield 73, 3) := by decide +kernel
theorem dX9_copy_182 : decode cX9_copy 182 = .ok (.iload 5, 2) := by decide +kernel
theorem dX9_copy_184 : decode cX9_copy 184 = .ok (.iaload, 1) := by decide +kernel
theorem dX9_copy_185 : decode cX9_copy 185 = .ok (.iastore, 1) := by decide +kernel
theorem dX9_copy_186 : decode cX9_copy 186 = .ok (.aload_n 0, 1) := by decide +kernel
theorem dX9_copy_187 : decode cX9_copy 187 = .ok (.getfield 73, 3) := by decide +kernel
theorem dX9_copy_190 : decode cX9_copy 190 = .ok (.iload 4, 2) := by decide +kernel
theorem dX9_copy_192 : decode cX9_copy 192 = .ok (.iload_n 2, 1) := by decide +kernel
theorem dX9_copy_193 : decode cX9_copy 193 = .ok (.aload_n 0, 1) := by decide +kernel
theorem dX9_copy_194 : decode cX9_copy 194 = .ok (.getfield 30, 3) := by decide +kernel
theorem dX9_copy_197 : decode cX9_copy 197 = .ok (.iload_n 1, 1) := by decide +kernel
theorem dX9_copy_198 : decode cX9_copy 198 = .ok (.iaload, 1) := by decide +kernel
theorem dX9_copy_199 : decode cX9_copy 199 = .ok (.if_icmp .lt 21, 3) := by decide +kernel
theorem dX9_copy_202 : decode cX9_copy 202 = .ok (.aload_n 0, 1) := by decide +kernel
theorem dX9_copy_203 : decode cX9_copy 203 = .ok (.getfield 73, 3) := by decide +kernel
theorem dX9_copy_206 : decode cX9_copy 206 = .ok (.iload 4, 2) := by decide +kernel
theorem dX9_copy_208 : decode cX9_copy 208 = .ok (.iaload, 1) := by decide +kernel
theorem dX9_copy_209 : decode cX9_copy 209 = .ok (.aload_n 0, 1) := by decide +kernel
theorem dX9_copy_210 : decode cX9_copy 210 = .ok (.getfield 73, 3) := by decide +kernel
theorem dX9_copy_213 : decode cX9_copy 213 = .ok (.iload 5, 2) := by decide +kernel
theorem dX9_copy_215 : decode cX9_copy 215 = .ok (.iaload, 1) := by decide +kernel
theorem dX9_copy_216 : decode cX9_copy 216 = .ok (.ior, 1) := by decide +kernel
theorem dX9_copy_217 : decode cX9_copy 217 = .ok (.goto 10, 3) := by decide +kernel
theorem dX9_copy_220 : decode cX9_copy 220 = .ok (.aload_n 0, 1) := by decide +kernel
theorem dX9_copy_221 : decode cX9_copy 221 = .ok (.getfield 73, 3) := by decide +kernel
theorem dX9_copy_224 : decode cX9_copy 224 = .ok (.iload 4, 2) := by decide +kernel
theorem dX9_copy_226 : decode cX9_copy 226 = .ok (.iaload, 1) := by decide +kernel
theorem dX9_copy_227 : decode cX9_copy 227 = .ok (.iastore, 1) := by decide +kernel
theorem dX9_copy_228 : decode cX9_copy 228 = .ok (.aload_n 0, 1) := by decide +kernel
theorem dX9_copy_229 : decode cX9_copy 229 = .ok (.dup, 1) := by decide +kernel
theorem dX9_copy_230 : decode cX9_copy 230 = .ok (.getfield 200, 3) := by decide +kernel
theorem dX9_copy_233 : decode cX9_copy 233 = .ok (.iconst 1, 1) := by decide +kernel
theorem dX9_copy_234 : decode cX9_copy 234 = .ok (.isub, 1) := by decide +kernel
theorem dX9_copy_235 : decode cX9_copy 235 = .ok (.putfield 200, 3) := by decide +kernel
theorem dX9_copy_238 : decode cX9_copy 238 = .ok (.iload_n 2, 1) := by decide +kernel
theorem dX9_copy_239 : decode cX9_copy 239 = .ok (.iload_n 3, 1) := by decide +kernel
theorem dX9_copy_240 : decode cX9_copy 240 = .ok (.if_icmp .ne 14, 3) := by decide +kernel
theorem dX9_copy_243 : decode cX9_copy 243 = .ok (.aload_n 0, 1) := by decide +kernel
theorem dX9_copy_244 : decode cX9_copy 244 = .ok (.dup, 1) := by decide +kernel
theorem dX9_copy_245 : decode cX9_copy 245 = .ok (.getfield 197, 3) := by decide +kernel
theorem dX9_copy_248 : decode cX9_copy 248 = .ok (.iconst 1, 1) := by decide +kernel
theorem dX9_copy_249 : decode cX9_copy 249 = .ok (.isub, 1) := by decide +kernel
theorem dX9_copy_250 : decode cX9_copy 250 = .ok (.putfield 197, 3) := by decide +kernel
theorem dX9_copy_253 : decode cX9_copy 253 = .ok (.return_, 1) := by decide +kernel
theorem dX9_copy_254 : decode cX9_copy 254 = .ok (.aload_n 0, 1) := by decide +kernel
theorem dX9_copy_255 : decode cX9_copy 255 = .ok (.getfield 67, 3) := by decide +kernel
theorem dX9_copy_258 : decode cX9_copy 258 = .ok (.aload_n 0, 1) := by decide +kernel
theorem dX9_copy_259 : decode cX9_copy 259 = .ok (.getfield 197, 3) := by decide +kernel
theorem dX9_copy_262 : decode cX9_copy 262 = .ok (.iconst 1, 1) := by decide +kernel
theorem dX9_copy_263 : decode cX9_copy 263 = .ok (.isub, 1) := by decide +kernel
theorem dX9_copy_264 : decode cX9_copy 264 = .ok (.iload_n 2, 1) := by decide +kernel
theorem dX9_copy_265 : decode cX9_copy 265 = .ok (.iconst 1, 1) := by decide +kernel
theorem dX9_copy_266 : decode cX9_copy 266 = .ok (.iadd, 1) := by decide +kernel
theorem dX9_copy_267 : decode cX9_copy 267 = .ok (.iastore, 1) := by decide +kernel
theorem dX9_copy_268 : decode cX9_copy 268 = .ok (.aload_n 0, 1) := by decide +kernel
theorem dX9_copy_269 : decode cX9_copy 269 = .ok (.aload_n 0, 1) := by decide +kernel
theorem dX9_copy_270 : decode cX9_copy 270 = .ok (.getfield 21, 3) := by decide +kernel
theorem dX9_copy_273 : decode cX9_copy 273 = .ok (.iload_n 1, 1) := by decide +kernel
theorem dX9_copy_274 : decode cX9_copy 274 = .ok (.iaload, 1) := by decide +kernel
theorem dX9_copy_275 : decode cX9_copy 275 = .ok (.invokevirtual 203, 3) := by decide +kernel
theorem dX9_copy_278 : decode cX9_copy 278 = .ok (.return_, 1) := by decide +kernel
theorem dX9_literally_0 : decode cX9_literally 0 = .ok (.iload_n 0, 1) := by decide +kernel
theorem dX9_literally_1 : decode cX9_literally 1 = .ok (.bipush 8, 2) := by decide +kernel
theorem dX9_literally_3 : decode cX9_literally 3 = .ok (.if_icmp .eq 9, 3) := by decide +kernel
theorem dX9_literally_6 : decode cX9_literally 6 = .ok (.iload_n 0, 1) := by decide +kernel
theorem dX9_literally_7 : decode cX9_literally 7 = .ok (.iload_n 1, 1) := by decide +kernel
theorem dX9_literally_8 : decode cX9_literally 8 = .ok (.iand, 1) := by decide +kernel
theorem dX9_literally_9 : decode cX9_literally 9 = .ok (.ifCond .eq 7, 3) := by decide +kernel
theorem dX9_literally_12 : decode cX9_literally 12 = .ok (.iconst 1, 1) := by decide +kernel
theorem dX9_literally_13 : decode cX9_literally 13 = .ok (.goto 4, 3) := by decide +kernel
theorem dX9_literally_16 : decode cX9_literally 16 = .ok (.iconst 0, 1) := by decide +kernel
theorem dX9_literally_17 : decode cX9_literally 17 = .ok (.ireturn, 1) := by decide +kernel
theorem dX9_satisfied_0 : decode cX9_satisfied 0 = .ok (.aload_n 0, 1) := by decide +kernel
theorem dX9_satisfied_1 : decode cX9_satisfied 1 = .ok (.getfield 142, 3) := by decide +kernel
theorem dX9_satisfied_4 : decode cX9_satisfied 4 = .ok (.iconst 1, 1) := by decide +kernel
theorem dX9_satisfied_5 : decode cX9_satisfied 5 = .ok (.isub, 1) := by decide +kernel
theorem dX9_satisfied_6 : decode cX9_satisfied 6 = .ok (.istore_n 3, 1) := by decide +kernel
theorem dX9_satisfied_7 : decode cX9_satisfied 7 = .ok (.iload_n 3, 1) := by decide +kernel
theorem dX9_satisfied_8 : decode cX9_satisfied 8 = .ok (.ifCond .lt 22, 3) := by decide +kernel
theorem dX9_satisfied_11 : decode cX9_satisfied 11 = .ok (.aload_n 0, 1) := by decide +kernel
theorem dX9_satisfied_12 : decode cX9_satisfied 12 = .ok (.getfield 82, 3) := by decide +kernel
theorem dX9_satisfied_15 : decode cX9_satisfied 15 = .ok (.iload_n 3, 1) := by decide +kernel
theorem dX9_satisfied_16 : decode cX9_satisfied 16 = .ok (.aload_n 0, 1) := by decide +kernel
theorem dX9_satisfied_17 : decode cX9_satisfied 17 = .ok (.iload_n 3, 1) := by decide +kernel
theorem dX9_satisfied_18 : decode cX9_satisfied 18 = .ok (.iload_n 1, 1) := by decide +kernel
theorem dX9_satisfied_19 : decode cX9_satisfied 19 = .ok (.iload_n 2, 1) := by decide +kernel
theorem dX9_satisfied_20 : decode cX9_satisfied 20 = .ok (.invokevirtual 221, 3) := by decide +kernel
theorem dX9_satisfied_23 : decode cX9_satisfied 23 = .ok (.bastore, 1) := by decide +kernel
theorem dX9_satisfied_24 : decode cX9_satisfied 24 = .ok (.iinc 3 (-1), 3) := by decide +kernel
theorem dX9_satisfied_27 : decode cX9_satisfied 27 = .ok (.goto (-20), 3) := by decide +kernel
theorem dX9_satisfied_30 : decode cX9_satisfied 30 = .ok (.iconst 0, 1) := by decide +kernel
theorem dX9_satisfied_31 : decode cX9_satisfied 31 = .ok (.istore_n 3, 1) := by decide +kernel
theorem dX9_satisfied_32 : decode cX9_satisfied 32 = .ok (.iconst 0, 1) := by decide +kernel
theorem dX9_satisfied_33 : decode cX9_satisfied 33 = .ok (.istore 4, 2) := by decide +kernel
theorem dX9_satisfied_35 : decode cX9_satisfied 35 = .ok (.iload 4, 2) := by decide +kernel
theorem dX9_satisfied_37 : decode cX9_satisfied 37 = .ok (.aload_n 0, 1) := by decide +kernel
theorem dX9_satisfied_38 : decode cX9_satisfied 38 = .ok (.getfield 187, 3) := by decide +kernel
theorem dX9_satisfied_41 : decode cX9_satisfied 41 = .ok (.if_icmp .ge 58, 3) := by decide +kernel
theorem dX9_satisfied_44 : decode cX9_satisfied 44 = .ok (.aload_n 0, 1) := by decide +kernel
theorem dX9_satisfied_45 : decode cX9_satisfied 45 = .ok (.iload 4, 2) := by decide +kernel
theorem dX9_satisfied_47 : decode cX9_satisfied 47 = .ok (.invokevirtual 225, 3) := by decide +kernel
theorem dX9_satisfied_50 : decode cX9_satisfied 50 = .ok (.ifCond .eq 13, 3) := by decide +kernel
theorem dX9_satisfied_53 : decode cX9_satisfied 53 = .ok (.aload_n 0, 1) := by decide +kernel
theorem dX9_satisfied_54 : decode cX9_satisfied 54 = .ok (.getfield 85, 3) := by decide +kernel
theorem dX9_satisfied_57 : decode cX9_satisfied 57 = .ok (.iload 4, 2) := by decide +kernel
theorem dX9_satisfied_59 : decode cX9_satisfied 59 = .ok (.baload, 1) := by decide +kernel
theorem dX9_satisfied_60 : decode cX9_satisfied 60 = .ok (.goto 15, 3) := by decide +kernel
theorem dX9_satisfied_63 : decode cX9_satisfied 63 = .ok (.aload_n 0, 1) := by decide +kernel
theorem dX9_satisfied_64 : decode cX9_satisfied 64 = .ok (.getfield 82, 3) := by decide +kernel
theorem dX9_satisfied_67 : decode cX9_satisfied 67 = .ok (.aload_n 0, 1) := by decide +kernel
theorem dX9_satisfied_68 : decode cX9_satisfied 68 = .ok (.getfield 48, 3) := by decide +kernel
theorem dX9_satisfied_71 : decode cX9_satisfied 71 = .ok (.iload 4, 2) := by decide +kernel
theorem dX9_satisfied_73 : decode cX9_satisfied 73 = .ok (.iaload, 1) := by decide +kernel
theorem dX9_satisfied_74 : decode cX9_satisfied 74 = .ok (.baload, 1) := by decide +kernel
theorem dX9_satisfied_75 : decode cX9_satisfied 75 = .ok (.istore 5, 2) := by decide +kernel
theorem dX9_satisfied_77 : decode cX9_satisfied 77 = .ok (.iload_n 3, 1) := by decide +kernel
theorem dX9_satisfied_78 : decode cX9_satisfied 78 = .ok (.iload 5, 2) := by decide +kernel
theorem dX9_satisfied_80 : decode cX9_satisfied 80 = .ok (.ifCond .eq 10, 3) := by decide +kernel
theorem dX9_satisfied_83 : decode cX9_satisfied 83 = .ok (.iconst 1, 1) := by decide +kernel
theorem dX9_satisfied_84 : decode cX9_satisfied 84 = .ok (.iload 4, 2) := by decide +kernel
theorem dX9_satisfied_86 : decode cX9_satisfied 86 = .ok (.ishl, 1) := by decide +kernel
theorem dX9_satisfied_87 : decode cX9_satisfied 87 = .ok (.goto 4, 3) := by decide +kernel
theorem dX9_satisfied_90 : decode cX9_satisfied 90 = .ok (.iconst 0, 1) := by decide +kernel
theorem dX9_satisfied_91 : decode cX9_satisfied 91 = .ok (.ior, 1) := by decide +kernel
theorem dX9_satisfied_92 : decode cX9_satisfied 92 = .ok (.istore_n 3, 1) := by decide +kernel
theorem dX9_satisfied_93 : decode cX9_satisfied 93 = .ok (.iinc 4 1, 3) := by decide +kernel
theorem dX9_satisfied_96 : decode cX9_satisfied 96 = .ok (.goto (-61), 3) := by decide +kernel
theorem dX9_satisfied_99 : decode cX9_satisfied 99 = .ok (.iload_n 3, 1) := by decide +kernel
theorem dX9_satisfied_100 : decode cX9_satisfied 100 = .ok (.ireturn, 1) := by decide +kernel
theorem dX9_isPlace_0 : decode cX9_isPlace 0 = .ok (.aload_n 0, 1) := by decide +kernel
theorem dX9_isPlace_1 : decode cX9_isPlace 1 = .ok (.getfield 45, 3) := by decide +kernel
theorem dX9_isPlace_4 : decode cX9_isPlace 4 = .ok (.aload_n 0, 1) := by decide +kernel
theorem dX9_isPlace_5 : decode cX9_isPlace 5 = .ok (.getfield 48, 3) := by decide +kernel
theorem dX9_isPlace_8 : decode cX9_isPlace 8 = .ok (.iload_n 1, 1) := by decide +kernel
theorem dX9_isPlace_9 : decode cX9_isPlace 9 = .ok (.iaload, 1) := by decide +kernel
theorem dX9_isPlace_10 : decode cX9_isPlace 10 = .ok (.iaload, 1) := by decide +kernel
theorem dX9_isPlace_11 : decode cX9_isPlace 11 = .ok (.iload_n 1, 1) := by decide +kernel
theorem dX9_isPlace_12 : decode cX9_isPlace 12 = .ok (.if_icmp .eq 7, 3) := by decide +kernel
theorem dX9_isPlace_15 : decode cX9_isPlace 15 = .ok (.iconst 1, 1) := by decide +kernel
theorem dX9_isPlace_16 : decode cX9_isPlace 16 = .ok (.goto 4, 3) := by decide +kernel
theorem dX9_isPlace_19 : decode cX9_isPlace 19 = .ok (.iconst 0, 1) := by decide +kernel
theorem dX9_isPlace_20 : decode cX9_isPlace 20 = .ok (.ireturn, 1) := by decide +kernel
theorem dX9_has_0 : decode cX9_has 0 = .ok (.iload_n 1, 1) := by decide +kernel
theorem dX9_has_1 : decode cX9_has 1 = .ok (.aload_n 0, 1) := by decide +kernel
theorem dX9_has_2 : decode cX9_has 2 = .ok (.getfield 45, 3) := by decide +kernel
theorem dX9_has_5 : decode cX9_has 5 = .ok (.iload_n 2, 1) := by decide +kernel
theorem dX9_has_6 : decode cX9_has 6 = .ok (.iaload, 1) := by decide +kernel
theorem dX9_has_7 : decode cX9_has 7 = .ok (.ishr, 1) := by decide +kernel
theorem dX9_has_8 : decode cX9_has 8 = .ok (.iconst 1, 1) := by decide +kernel
theorem dX9_has_9 : decode cX9_has 9 = .ok (.iand, 1) := by decide +kernel
theorem dX9_has_10 : decode cX9_has 10 = .ok (.iconst 1, 1) := by decide +kernel
theorem dX9_has_11 : decode cX9_has 11 = .ok (.if_icmp .ne 7, 3) := by decide +kernel
theorem dX9_has_14 : decode cX9_has 14 = .ok (.iconst 1, 1) := by decide +kernel
theorem dX9_has_15 : decode cX9_has 15 = .ok (.goto 4, 3) := by decide +kernel
theorem dX9_has_18 : decode cX9_has 18 = .ok (.iconst 0, 1) := by decide +kernel
theorem dX9_has_19 : decode cX9_has 19 = .ok (.ireturn, 1) := by decide +kernel
theorem dX9_asks_0 : decode cX9_asks 0 = .ok (.aload_n 0, 1) := by decide +kernel
theorem dX9_asks_1 : decode cX9_asks 1 = .ok (.getfield 17, 3) := by decide +kernel
theorem dX9_asks_4 : decode cX9_asks 4 = .ok (.iload_n 1, 1) := by decide +kernel
theorem dX9_asks_5 : decode cX9_asks 5 = .ok (.iaload, 1) := by decide +kernel
theorem dX9_asks_6 : decode cX9_asks 6 = .ok (.tableswitch 269 1 9 #[50, 61, 81, 115, 149, 192, 221, 233, 251], 50) := by decide +kernel
theorem dX9_asks_56 : decode cX9_asks 56 = .ok (.aload_n 0, 1) := by decide +kernel
theorem dX9_asks_57 : decode cX9_asks 57 = .ok (.getfield 30, 3) := by decide +kernel
theorem dX9_asks_60 : decode cX9_asks 60 = .ok (.iload_n 1, 1) := by decide +kernel
theorem dX9_asks_61 : decode cX9_asks 61 = .ok (.iaload, 1) := by decide +kernel
theorem dX9_asks_62 : decode cX9_asks 62 = .ok (.iload_n 2, 1) := by decide +kernel
theorem dX9_asks_63 : decode cX9_asks 63 = .ok (.invokestatic 229, 3) := by decide +kernel
theorem dX9_asks_66 : decode cX9_asks 66 = .ok (.ireturn, 1) := by decide +kernel
theorem dX9_asks_67 : decode cX9_asks 67 = .ok (.aload_n 0, 1) := by decide +kernel
theorem dX9_asks_68 : decode cX9_asks 68 = .ok (.getfield 82, 3) := by decide +kernel
theorem dX9_asks_71 : decode cX9_asks 71 = .ok (.aload_n 0, 1) := by decide +kernel
theorem dX9_asks_72 : decode cX9_asks 72 = .ok (.getfield 21, 3) := by decide +kernel
theorem dX9_asks_75 : decode cX9_asks 75 = .ok (.iload_n 1, 1) := by decide +kernel
theorem dX9_asks_76 : decode cX9_asks 76 = .ok (.iaload, 1) := by decide +kernel
theorem dX9_asks_77 : decode cX9_asks 77 = .ok (.baload, 1) := by decide +kernel
theorem dX9_asks_78 : decode cX9_asks 78 = .ok (.ifCond .ne 7, 3) := by decide +kernel
theorem dX9_asks_81 : decode cX9_asks 81 = .ok (.iconst 1, 1) := by decide +kernel
theorem dX9_asks_82 : decode cX9_asks 82 = .ok (.goto 4, 3) := by decide +kernel
theorem dX9_asks_85 : decode cX9_asks 85 = .ok (.iconst 0, 1) := by decide +kernel
theorem dX9_asks_86 : decode cX9_asks 86 = .ok (.ireturn, 1) := by decide +kernel
theorem dX9_asks_87 : decode cX9_asks 87 = .ok (.aload_n 0, 1) := by decide +kernel
theorem dX9_asks_88 : decode cX9_asks 88 = .ok (.getfield 82, 3) := by decide +kernel
theorem dX9_asks_91 : decode cX9_asks 91 = .ok (.aload_n 0, 1) := by decide +kernel
theorem dX9_asks_92 : decode cX9_asks 92 = .ok (.getfield 21, 3) := by decide +kernel
theorem dX9_asks_95 : decode cX9_asks 95 = .ok (.iload_n 1, 1) := by decide +kernel
theorem dX9_asks_96 : decode cX9_asks 96 = .ok (.iaload, 1) := by decide +kernel
theorem dX9_asks_97 : decode cX9_asks 97 = .ok (.baload, 1) := by decide +kernel
theorem dX9_asks_98 : decode cX9_asks 98 = .ok (.ifCond .eq 21, 3) := by decide +kernel
theorem dX9_asks_101 : decode cX9_asks 101 = .ok (.aload_n 0, 1) := by decide +kernel
theorem dX9_asks_102 : decode cX9_asks 102 = .ok (.getfield 82, 3) := by decide +kernel
theorem dX9_asks_105 : decode cX9_asks 105 = .ok (.aload_n 0, 1) := by decide +kernel
theorem dX9_asks_106 : decode cX9_asks 106 = .ok (.getfield 24, 3) := by decide +kernel
theorem dX9_asks_109 : decode cX9_asks 109 = .ok (.iload_n 1, 1) := by decide +kernel
theorem dX9_asks_110 : decode cX9_asks 110 = .ok (.iaload, 1) := by decide +kernel
theorem dX9_asks_111 : decode cX9_asks 111 = .ok (.baload, 1) := by decide +kernel
theorem dX9_asks_112 : decode cX9_asks 112 = .ok (.ifCond .eq 7, 3) := by decide +kernel
theorem dX9_asks_115 : decode cX9_asks 115 = .ok (.iconst 1, 1) := by decide +kernel
theorem dX9_asks_116 : decode cX9_asks 116 = .ok (.goto 4, 3) := by decide +kernel
theorem dX9_asks_119 : decode cX9_asks 119 = .ok (.iconst 0, 1) := by decide +kernel
theorem dX9_asks_120 : decode cX9_asks 120 = .ok (.ireturn, 1) := by decide +kernel
theorem dX9_asks_121 : decode cX9_asks 121 = .ok (.aload_n 0, 1) := by decide +kernel
theorem dX9_asks_122 : decode cX9_asks 122 = .ok (.getfield 82, 3) := by decide +kernel
theorem dX9_asks_125 : decode cX9_asks 125 = .ok (.aload_n 0, 1) := by decide +kernel
theorem dX9_asks_126 : decode cX9_asks 126 = .ok (.getfield 21, 3) := by decide +kernel
theorem dX9_asks_129 : decode cX9_asks 129 = .ok (.iload_n 1, 1) := by decide +kernel
theorem dX9_asks_130 : decode cX9_asks 130 = .ok (.iaload, 1) := by decide +kernel
theorem dX9_asks_131 : decode cX9_asks 131 = .ok (.baload, 1) := by decide +kernel
theorem dX9_asks_132 : decode cX9_asks 132 = .ok (.ifCond .ne 17, 3) := by decide +kernel
theorem dX9_asks_135 : decode cX9_asks 135 = .ok (.aload_n 0, 1) := by decide +kernel
theorem dX9_asks_136 : decode cX9_asks 136 = .ok (.getfield 82, 3) := by decide +kernel
theorem dX9_asks_139 : decode cX9_asks 139 = .ok (.aload_n 0, 1) := by decide +kernel
theorem dX9_asks_140 : decode cX9_asks 140 = .ok (.getfield 24, 3) := by decide +kernel
theorem dX9_asks_143 : decode cX9_asks 143 = .ok (.iload_n 1, 1) := by decide +kernel
theorem dX9_asks_144 : decode cX9_asks 144 = .ok (.iaload, 1) := by decide +kernel
theorem dX9_asks_145 : decode cX9_asks 145 = .ok (.baload, 1) := by decide +kernel
theorem dX9_asks_146 : decode cX9_asks 146 = .ok (.ifCond .eq 7, 3) := by decide +kernel
theorem dX9_asks_149 : decode cX9_asks 149 = .ok (.iconst 1, 1) := by decide +kernel
theorem dX9_asks_150 : decode cX9_asks 150 = .ok (.goto 4, 3) := by decide +kernel
theorem dX9_asks_153 : decode cX9_asks 153 = .ok (.iconst 0, 1) := by decide +kernel
theorem dX9_asks_154 : decode cX9_asks 154 = .ok (.ireturn, 1) := by decide +kernel
theorem dX9_asks_155 : decode cX9_asks 155 = .ok (.aload_n 0, 1) := by decide +kernel
theorem dX9_asks_156 : decode cX9_asks 156 = .ok (.getfield 82, 3) := by decide +kernel
theorem dX9_asks_159 : decode cX9_asks 159 = .ok (.aload_n 0, 1) := by decide +kernel
theorem dX9_asks_160 : decode cX9_asks 160 = .ok (.getfield 24, 3) := by decide +kernel
theorem dX9_asks_163 : decode cX9_asks 163 = .ok (.iload_n 1, 1) := by decide +kernel
theorem dX9_asks_164 : decode cX9_asks 164 = .ok (.iaload, 1) := by decide +kernel
theorem dX9_asks_165 : decode cX9_asks 165 = .ok (.baload, 1) := by decide +kernel
theorem dX9_asks_166 : decode cX9_asks 166 = .ok (.ifCond .ne 26, 3) := by decide +kernel
theorem dX9_asks_169 : decode cX9_asks 169 = .ok (.aload_n 0, 1) := by decide +kernel
theorem dX9_asks_170 : decode cX9_asks 170 = .ok (.getfield 82, 3) := by decide +kernel
theorem dX9_asks_173 : decode cX9_asks 173 = .ok (.aload_n 0, 1) := by decide +kernel
theorem dX9_asks_174 : decode cX9_asks 174 = .ok (.getfield 21, 3) := by decide +kernel
theorem dX9_asks_177 : decode cX9_asks 177 = .ok (.iload_n 1, 1) := by decide +kernel
theorem dX9_asks_178 : decode cX9_asks 178 = .ok (.iaload, 1) := by decide +kernel
theorem dX9_asks_179 : decode cX9_asks 179 = .ok (.baload, 1) := by decide +kernel
theorem dX9_asks_180 : decode cX9_asks 180 = .ok (.ifCond .eq 16, 3) := by decide +kernel
theorem dX9_asks_183 : decode cX9_asks 183 = .ok (.aload_n 0, 1) := by decide +kernel
theorem dX9_asks_184 : decode cX9_asks 184 = .ok (.iload_n 3, 1) := by decide +kernel
theorem dX9_asks_185 : decode cX9_asks 185 = .ok (.iload_n 1, 1) := by decide +kernel
theorem dX9_asks_186 : decode cX9_asks 186 = .ok (.invokevirtual 233, 3) := by decide +kernel
theorem dX9_asks_189 : decode cX9_asks 189 = .ok (.ifCond .eq 7, 3) := by decide +kernel
theorem dX9_asks_192 : decode cX9_asks 192 = .ok (.iconst 1, 1) := by decide +kernel
theorem dX9_asks_193 : decode cX9_asks 193 = .ok (.goto 4, 3) := by decide +kernel
theorem dX9_asks_196 : decode cX9_asks 196 = .ok (.iconst 0, 1) := by decide +kernel
theorem dX9_asks_197 : decode cX9_asks 197 = .ok (.ireturn, 1) := by decide +kernel
theorem dX9_asks_198 : decode cX9_asks 198 = .ok (.aload_n 0, 1) := by decide +kernel
theorem dX9_asks_199 : decode cX9_asks 199 = .ok (.getfield 82, 3) := by decide +kernel
theorem dX9_asks_202 : decode cX9_asks 202 = .ok (.aload_n 0, 1) := by decide +kernel
theorem dX9_asks_203 : decode cX9_asks 203 = .ok (.getfield 21, 3) := by decide +kernel
theorem dX9_asks_206 : decode cX9_asks 206 = .ok (.iload_n 1, 1) := by decide +kernel
theorem dX9_asks_207 : decode cX9_asks 207 = .ok (.iaload, 1) := by decide +kernel
theorem dX9_asks_208 : decode cX9_asks 208 = .ok (.baload, 1) := by decide +kernel
theorem dX9_asks_209 : decode cX9_asks 209 = .ok (.ifCond .eq 16, 3) := by decide +kernel
theorem dX9_asks_212 : decode cX9_asks 212 = .ok (.aload_n 0, 1) := by decide +kernel
theorem dX9_asks_213 : decode cX9_asks 213 = .ok (.iload_n 3, 1) := by decide +kernel
theorem dX9_asks_214 : decode cX9_asks 214 = .ok (.iload_n 1, 1) := by decide +kernel
theorem dX9_asks_215 : decode cX9_asks 215 = .ok (.invokevirtual 233, 3) := by decide +kernel
theorem dX9_asks_218 : decode cX9_asks 218 = .ok (.ifCond .eq 7, 3) := by decide +kernel
theorem dX9_asks_221 : decode cX9_asks 221 = .ok (.iconst 1, 1) := by decide +kernel
theorem dX9_asks_222 : decode cX9_asks 222 = .ok (.goto 4, 3) := by decide +kernel
theorem dX9_asks_225 : decode cX9_asks 225 = .ok (.iconst 0, 1) := by decide +kernel
theorem dX9_asks_226 : decode cX9_asks 226 = .ok (.ireturn, 1) := by decide +kernel
theorem dX9_asks_227 : decode cX9_asks 227 = .ok (.aload_n 0, 1) := by decide +kernel
theorem dX9_asks_228 : decode cX9_asks 228 = .ok (.iload_n 3, 1) := by decide +kernel
theorem dX9_asks_229 : decode cX9_asks 229 = .ok (.aload_n 0, 1) := by decide +kernel
theorem dX9_asks_230 : decode cX9_asks 230 = .ok (.getfield 21, 3) := by decide +kernel
theorem dX9_asks_233 : decode cX9_asks 233 = .ok (.iload_n 1, 1) := by decide +kernel
theorem dX9_asks_234 : decode cX9_asks 234 = .ok (.iaload, 1) := by decide +kernel
theorem dX9_asks_235 : decode cX9_asks 235 = .ok (.invokevirtual 233, 3) := by decide +kernel
theorem dX9_asks_238 : decode cX9_asks 238 = .ok (.ireturn, 1) := by decide +kernel
theorem dX9_asks_239 : decode cX9_asks 239 = .ok (.aload_n 0, 1) := by decide +kernel
theorem dX9_asks_240 : decode cX9_asks 240 = .ok (.iload_n 1, 1) := by decide +kernel
theorem dX9_asks_241 : decode cX9_asks 241 = .ok (.iload_n 3, 1) := by decide +kernel
theorem dX9_asks_242 : decode cX9_asks 242 = .ok (.aload_n 0, 1) := by decide +kernel
theorem dX9_asks_243 : decode cX9_asks 243 = .ok (.getfield 82, 3) := by decide +kernel
theorem dX9_asks_246 : decode cX9_asks 246 = .ok (.aload_n 0, 1) := by decide +kernel
theorem dX9_asks_247 : decode cX9_asks 247 = .ok (.getfield 24, 3) := by decide +kernel
theorem dX9_asks_250 : decode cX9_asks 250 = .ok (.iload_n 1, 1) := by decide +kernel
theorem dX9_asks_251 : decode cX9_asks 251 = .ok (.iaload, 1) := by decide +kernel
theorem dX9_asks_252 : decode cX9_asks 252 = .ok (.baload, 1) := by decide +kernel
theorem dX9_asks_253 : decode cX9_asks 253 = .ok (.invokevirtual 236, 3) := by decide +kernel
theorem dX9_asks_256 : decode cX9_asks 256 = .ok (.ireturn, 1) := by decide +kernel
theorem dX9_asks_257 : decode cX9_asks 257 = .ok (.aload_n 0, 1) := by decide +kernel
theorem dX9_asks_258 : decode cX9_asks 258 = .ok (.iload_n 1, 1) := by decide +kernel
theorem dX9_asks_259 : decode cX9_asks 259 = .ok (.iload_n 3, 1) := by decide +kernel
theorem dX9_asks_260 : decode cX9_asks 260 = .ok (.aload_n 0, 1) := by decide +kernel
theorem dX9_asks_261 : decode cX9_asks 261 = .ok (.iload_n 3, 1) := by decide +kernel
theorem dX9_asks_262 : decode cX9_asks 262 = .ok (.aload_n 0, 1) := by decide +kernel
theorem dX9_asks_263 : decode cX9_asks 263 = .ok (.getfield 24, 3) := by decide +kernel
theorem dX9_asks_266 : decode cX9_asks 266 = .ok (.iload_n 1, 1) := by decide +kernel
theorem dX9_asks_267 : decode cX9_asks 267 = .ok (.iaload, 1) := by decide +kernel
theorem dX9_asks_268 : decode cX9_asks 268 = .ok (.invokevirtual 233, 3) := by decide +kernel
theorem dX9_asks_271 : decode cX9_asks 271 = .ok (.invokevirtual 236, 3) := by decide +kernel
theorem dX9_asks_274 : decode cX9_asks 274 = .ok (.ireturn, 1) := by decide +kernel
theorem dX9_asks_275 : decode cX9_asks 275 = .ok (.iconst 0, 1) := by decide +kernel
theorem dX9_asks_276 : decode cX9_asks 276 = .ok (.ireturn, 1) := by decide +kernel
theorem dX9_places_0 : decode cX9_places 0 = .ok (.iconst 1, 1) := by decide +kernel
theorem dX9_places_1 : decode cX9_places 1 = .ok (.istore 4, 2) := by decide +kernel
theorem dX9_places_3 : decode cX9_places 3 = .ok (.iconst 0, 1) := by decide +kernel
theorem dX9_places_4 : decode cX9_places 4 = .ok (.istore 5, 2) := by decide +kernel
theorem dX9_places_6 : decode cX9_places 6 = .ok (.iload 5, 2) := by decide +kernel
theorem dX9_places_8 : decode cX9_places 8 = .ok (.aload_n 0, 1) := by decide +kernel
theorem dX9_places_9 : decode cX9_places 9 = .ok (.getfield 187, 3) := by decide +kernel
theorem dX9_places_12 : decode cX9_places 12 = .ok (.if_icmp .ge 123, 3) := by decide +kernel
theorem dX9_places_15 : decode cX9_places 15 = .ok (.aload_n 0, 1) := by decide +kernel
theorem dX9_places_16 : decode cX9_places 16 = .ok (.iload 5, 2) := by decide +kernel
theorem dX9_places_18 : decode cX9_places 18 = .ok (.invokevirtual 225, 3) := by decide +kernel
theorem dX9_places_21 : decode cX9_places 21 = .ok (.ifCond .eq 108, 3) := by decide +kernel
theorem dX9_places_24 : decode cX9_places 24 = .ok (.aload_n 0, 1) := by decide +kernel
theorem dX9_places_25 : decode cX9_places 25 = .ok (.getfield 51, 3) := by decide +kernel
theorem dX9_places_28 : decode cX9_places 28 = .ok (.iload 5, 2) := by decide +kernel
theorem dX9_places_30 : decode cX9_places 30 = .ok (.iaload, 1) := by decide +kernel
theorem dX9_places_31 : decode cX9_places 31 = .ok (.iload_n 1, 1) := by decide +kernel
theorem dX9_places_32 : decode cX9_places 32 = .ok (.if_icmp .eq 6, 3) := by decide +kernel
theorem dX9_places_35 : decode cX9_places 35 = .ok (.goto 94, 3) := by decide +kernel
theorem dX9_places_38 : decode cX9_places 38 = .ok (.aload_n 0, 1) := by decide +kernel
theorem dX9_places_39 : decode cX9_places 39 = .ok (.getfield 85, 3) := by decide +kernel
theorem dX9_places_42 : decode cX9_places 42 = .ok (.iload 5, 2) := by decide +kernel
theorem dX9_places_44 : decode cX9_places 44 = .ok (.aload_n 0, 1) := by decide +kernel
theorem dX9_places_45 : decode cX9_places 45 = .ok (.getfield 82, 3) := by decide +kernel
theorem dX9_places_48 : decode cX9_places 48 = .ok (.aload_n 0, 1) := by decide +kernel
theorem dX9_places_49 : decode cX9_places 49 = .ok (.getfield 48, 3) := by decide +kernel
theorem dX9_places_52 : decode cX9_places 52 = .ok (.iload 5, 2) := by decide +kernel
theorem dX9_places_54 : decode cX9_places 54 = .ok (.iaload, 1) := by decide +kernel
theorem dX9_places_55 : decode cX9_places 55 = .ok (.baload, 1) := by decide +kernel
theorem dX9_places_56 : decode cX9_places 56 = .ok (.ifCond .eq 31, 3) := by decide +kernel
theorem dX9_places_59 : decode cX9_places 59 = .ok (.aload_n 0, 1) := by decide +kernel
theorem dX9_places_60 : decode cX9_places 60 = .ok (.getfield 54, 3) := by decide +kernel
theorem dX9_places_63 : decode cX9_places 63 = .ok (.iload 5, 2) := by decide +kernel
theorem dX9_places_65 : decode cX9_places 65 = .ok (.iaload, 1) := by decide +kernel
theorem dX9_places_66 : decode cX9_places 66 = .ok (.iload_n 2, 1) := by decide +kernel
theorem dX9_places_67 : decode cX9_places 67 = .ok (.iconst (-1), 1) := by decide +kernel
theorem dX9_places_68 : decode cX9_places 68 = .ok (.ixor, 1) := by decide +kernel
theorem dX9_places_69 : decode cX9_places 69 = .ok (.iand, 1) := by decide +kernel
theorem dX9_places_70 : decode cX9_places 70 = .ok (.ifCond .ne 21, 3) := by decide +kernel
theorem dX9_places_73 : decode cX9_places 73 = .ok (.aload_n 0, 1) := by decide +kernel
theorem dX9_places_74 : decode cX9_places 74 = .ok (.getfield 57, 3) := by decide +kernel
theorem dX9_places_77 : decode cX9_places 77 = .ok (.iload 5, 2) := by decide +kernel
theorem dX9_places_79 : decode cX9_places 79 = .ok (.baload, 1) := by decide +kernel
theorem dX9_places_80 : decode cX9_places 80 = .ok (.ifCond .eq 7, 3) := by decide +kernel
theorem dX9_places_83 : decode cX9_places 83 = .ok (.iload_n 3, 1) := by decide +kernel
theorem dX9_places_84 : decode cX9_places 84 = .ok (.ifCond .eq 7, 3) := by decide +kernel
theorem dX9_places_87 : decode cX9_places 87 = .ok (.iconst 1, 1) := by decide +kernel
theorem dX9_places_88 : decode cX9_places 88 = .ok (.goto 4, 3) := by decide +kernel
theorem dX9_places_91 : decode cX9_places 91 = .ok (.iconst 0, 1) := by decide +kernel
theorem dX9_places_92 : decode cX9_places 92 = .ok (.bastore, 1) := by decide +kernel
theorem dX9_places_93 : decode cX9_places 93 = .ok (.iload 4, 2) := by decide +kernel
theorem dX9_places_95 : decode cX9_places 95 = .ok (.ifCond .eq 31, 3) := by decide +kernel
theorem dX9_places_98 : decode cX9_places 98 = .ok (.aload_n 0, 1) := by decide +kernel
theorem dX9_places_99 : decode cX9_places 99 = .ok (.getfield 61, 3) := by decide +kernel
theorem dX9_places_102 : decode cX9_places 102 = .ok (.iload_n 1, 1) := by decide +kernel
theorem dX9_places_103 : decode cX9_places 103 = .ok (.iaload, 1) := by decide +kernel
theorem dX9_places_104 : decode cX9_places 104 = .ok (.iload 5, 2) := by decide +kernel
theorem dX9_places_106 : decode cX9_places 106 = .ok (.ishr, 1) := by decide +kernel
theorem dX9_places_107 : decode cX9_places 107 = .ok (.iconst 1, 1) := by decide +kernel
theorem dX9_places_108 : decode cX9_places 108 = .ok (.iand, 1) := by decide +kernel
theorem dX9_places_109 : decode cX9_places 109 = .ok (.ifCond .eq 13, 3) := by decide +kernel
theorem dX9_places_112 : decode cX9_places 112 = .ok (.aload_n 0, 1) := by decide +kernel
theorem dX9_places_113 : decode cX9_places 113 = .ok (.getfield 85, 3) := by decide +kernel
theorem dX9_places_116 : decode cX9_places 116 = .ok (.iload 5, 2) := by decide +kernel
theorem dX9_places_118 : decode cX9_places 118 = .ok (.baload, 1) := by decide +kernel
theorem dX9_places_119 : decode cX9_places 119 = .ok (.ifCond .eq 7, 3) := by decide +kernel
theorem dX9_places_122 : decode cX9_places 122 = .ok (.iconst 1, 1) := by decide +kernel
theorem dX9_places_123 : decode cX9_places 123 = .ok (.goto 4, 3) := by decide +kernel
theorem dX9_places_126 : decode cX9_places 126 = .ok (.iconst 0, 1) := by decide +kernel
theorem dX9_places_127 : decode cX9_places 127 = .ok (.istore 4, 2) := by decide +kernel
theorem dX9_places_129 : decode cX9_places 129 = .ok (.iinc 5 1, 3) := by decide +kernel
theorem dX9_places_132 : decode cX9_places 132 = .ok (.goto (-126), 3) := by decide +kernel
theorem dX9_places_135 : decode cX9_places 135 = .ok (.iload 4, 2) := by decide +kernel
theorem dX9_places_137 : decode cX9_places 137 = .ok (.ireturn, 1) := by decide +kernel
theorem dX9_marked_0 : decode cX9_marked 0 = .ok (.aload_n 0, 1) := by decide +kernel
theorem dX9_marked_1 : decode cX9_marked 1 = .ok (.getfield 88, 3) := by decide +kernel
theorem dX9_marked_4 : decode cX9_marked 4 = .ok (.bipush 8, 2) := by decide +kernel
theorem dX9_marked_6 : decode cX9_marked 6 = .ok (.iload_n 1, 1) := by decide +kernel
theorem dX9_marked_7 : decode cX9_marked 7 = .ok (.imul, 1) := by decide +kernel
theorem dX9_marked_8 : decode cX9_marked 8 = .ok (.iload_n 2, 1) := by decide +kernel
theorem dX9_marked_9 : decode cX9_marked 9 = .ok (.bipush 6, 2) := by decide +kernel
theorem dX9_marked_11 : decode cX9_marked 11 = .ok (.ishr, 1) := by decide +kernel
theorem dX9_marked_12 : decode cX9_marked 12 = .ok (.iadd, 1) := by decide +kernel
theorem dX9_marked_13 : decode cX9_marked 13 = .ok (.laload, 1) := by decide +kernel
theorem dX9_marked_14 : decode cX9_marked 14 = .ok (.iload_n 2, 1) := by decide +kernel
theorem dX9_marked_15 : decode cX9_marked 15 = .ok (.bipush 63, 2) := by decide +kernel
theorem dX9_marked_17 : decode cX9_marked 17 = .ok (.iand, 1) := by decide +kernel
theorem dX9_marked_18 : decode cX9_marked 18 = .ok (.lshr, 1) := by decide +kernel
theorem dX9_marked_19 : decode cX9_marked 19 = .ok (.lconst 1, 1) := by decide +kernel
theorem dX9_marked_20 : decode cX9_marked 20 = .ok (.land, 1) := by decide +kernel
theorem dX9_marked_21 : decode cX9_marked 21 = .ok (.lconst 1, 1) := by decide +kernel
theorem dX9_marked_22 : decode cX9_marked 22 = .ok (.lcmp, 1) := by decide +kernel
theorem dX9_marked_23 : decode cX9_marked 23 = .ok (.ifCond .ne 7, 3) := by decide +kernel
theorem dX9_marked_26 : decode cX9_marked 26 = .ok (.iconst 1, 1) := by decide +kernel
theorem dX9_marked_27 : decode cX9_marked 27 = .ok (.goto 4, 3) := by decide +kernel
theorem dX9_marked_30 : decode cX9_marked 30 = .ok (.iconst 0, 1) := by decide +kernel
theorem dX9_marked_31 : decode cX9_marked 31 = .ok (.ireturn, 1) := by decide +kernel
theorem dX9_after_0 : decode cX9_after 0 = .ok (.aload_n 0, 1) := by decide +kernel
theorem dX9_after_1 : decode cX9_after 1 = .ok (.getfield 240, 3) := by decide +kernel
theorem dX9_after_4 : decode cX9_after 4 = .ok (.istore_n 3, 1) := by decide +kernel
theorem dX9_after_5 : decode cX9_after 5 = .ok (.iconst 0, 1) := by decide +kernel
theorem dX9_after_6 : decode cX9_after 6 = .ok (.istore 4, 2) := by decide +kernel
theorem dX9_after_8 : decode cX9_after 8 = .ok (.iload 4, 2) := by decide +kernel
theorem dX9_after_10 : decode cX9_after 10 = .ok (.bipush 8, 2) := by decide +kernel
theorem dX9_after_12 : decode cX9_after 12 = .ok (.if_icmp .ge 22, 3) := by decide +kernel
theorem dX9_after_15 : decode cX9_after 15 = .ok (.aload_n 0, 1) := by decide +kernel
theorem dX9_after_16 : decode cX9_after 16 = .ok (.getfield 88, 3) := by decide +kernel
theorem dX9_after_19 : decode cX9_after 19 = .ok (.bipush 8, 2) := by decide +kernel
theorem dX9_after_21 : decode cX9_after 21 = .ok (.iload_n 3, 1) := by decide +kernel
theorem dX9_after_22 : decode cX9_after 22 = .ok (.imul, 1) := by decide +kernel
theorem dX9_after_23 : decode cX9_after 23 = .ok (.iload 4, 2) := by decide +kernel
theorem dX9_after_25 : decode cX9_after 25 = .ok (.iadd, 1) := by decide +kernel
theorem dX9_after_26 : decode cX9_after 26 = .ok (.lconst 0, 1) := by decide +kernel
theorem dX9_after_27 : decode cX9_after 27 = .ok (.lastore, 1) := by decide +kernel
theorem dX9_after_28 : decode cX9_after 28 = .ok (.iinc 4 1, 3) := by decide +kernel
theorem dX9_after_31 : decode cX9_after 31 = .ok (.goto (-23), 3) := by decide +kernel
theorem dX9_after_34 : decode cX9_after 34 = .ok (.iconst 0, 1) := by decide +kernel
theorem dX9_after_35 : decode cX9_after 35 = .ok (.istore 4, 2) := by decide +kernel
theorem dX9_after_37 : decode cX9_after 37 = .ok (.iload 4, 2) := by decide +kernel
theorem dX9_after_39 : decode cX9_after 39 = .ok (.iconst 1, 1) := by decide +kernel
theorem dX9_after_40 : decode cX9_after 40 = .ok (.aload_n 0, 1) := by decide +kernel
theorem dX9_after_41 : decode cX9_after 41 = .ok (.getfield 187, 3) := by decide +kernel
theorem dX9_after_44 : decode cX9_after 44 = .ok (.ishl, 1) := by decide +kernel
theorem dX9_after_45 : decode cX9_after 45 = .ok (.if_icmp .ge 55, 3) := by decide +kernel
theorem dX9_after_48 : decode cX9_after 48 = .ok (.aload_n 0, 1) := by decide +kernel
theorem dX9_after_49 : decode cX9_after 49 = .ok (.iload_n 1, 1) := by decide +kernel
theorem dX9_after_50 : decode cX9_after 50 = .ok (.aload_n 0, 1) := by decide +kernel
theorem dX9_after_51 : decode cX9_after 51 = .ok (.getfield 79, 3) := by decide +kernel
theorem dX9_after_54 : decode cX9_after 54 = .ok (.sipush 512, 3) := by decide +kernel
theorem dX9_after_57 : decode cX9_after 57 = .ok (.iload_n 2, 1) := by decide +kernel
theorem dX9_after_58 : decode cX9_after 58 = .ok (.imul, 1) := by decide +kernel
theorem dX9_after_59 : decode cX9_after 59 = .ok (.iload 4, 2) := by decide +kernel
theorem dX9_after_61 : decode cX9_after 61 = .ok (.iadd, 1) := by decide +kernel
theorem dX9_after_62 : decode cX9_after 62 = .ok (.iaload, 1) := by decide +kernel
theorem dX9_after_63 : decode cX9_after 63 = .ok (.invokevirtual 243, 3) := by decide +kernel
theorem dX9_after_66 : decode cX9_after 66 = .ok (.ifCond .eq 28, 3) := by decide +kernel
theorem dX9_after_69 : decode cX9_after 69 = .ok (.aload_n 0, 1) := by decide +kernel
theorem dX9_after_70 : decode cX9_after 70 = .ok (.getfield 88, 3) := by decide +kernel
theorem dX9_after_73 : decode cX9_after 73 = .ok (.bipush 8, 2) := by decide +kernel
theorem dX9_after_75 : decode cX9_after 75 = .ok (.iload_n 3, 1) := by decide +kernel
theorem dX9_after_76 : decode cX9_after 76 = .ok (.imul, 1) := by decide +kernel
theorem dX9_after_77 : decode cX9_after 77 = .ok (.iload 4, 2) := by decide +kernel
theorem dX9_after_79 : decode cX9_after 79 = .ok (.bipush 6, 2) := by decide +kernel
theorem dX9_after_81 : decode cX9_after 81 = .ok (.ishr, 1) := by decide +kernel
theorem dX9_after_82 : decode cX9_after 82 = .ok (.iadd, 1) := by decide +kernel
theorem dX9_after_83 : decode cX9_after 83 = .ok (.dup2, 1) := by decide +kernel
theorem dX9_after_84 : decode cX9_after 84 = .ok (.laload, 1) := by decide +kernel
theorem dX9_after_85 : decode cX9_after 85 = .ok (.lconst 1, 1) := by decide +kernel
theorem dX9_after_86 : decode cX9_after 86 = .ok (.iload 4, 2) := by decide +kernel
theorem dX9_after_88 : decode cX9_after 88 = .ok (.bipush 63, 2) := by decide +kernel
theorem dX9_after_90 : decode cX9_after 90 = .ok (.iand, 1) := by decide +kernel
theorem dX9_after_91 : decode cX9_after 91 = .ok (.lshl, 1) := by decide +kernel
theorem dX9_after_92 : decode cX9_after 92 = .ok (.lor, 1) := by decide +kernel
theorem dX9_after_93 : decode cX9_after 93 = .ok (.lastore, 1) := by decide +kernel
theorem dX9_after_94 : decode cX9_after 94 = .ok (.iinc 4 1, 3) := by decide +kernel
theorem dX9_after_97 : decode cX9_after 97 = .ok (.goto (-60), 3) := by decide +kernel
theorem dX9_after_100 : decode cX9_after 100 = .ok (.aload_n 0, 1) := by decide +kernel
theorem dX9_after_101 : decode cX9_after 101 = .ok (.iload_n 3, 1) := by decide +kernel
theorem dX9_after_102 : decode cX9_after 102 = .ok (.invokevirtual 246, 3) := by decide +kernel
theorem dX9_after_105 : decode cX9_after 105 = .ok (.ireturn, 1) := by decide +kernel
theorem dX9_known_0 : decode cX9_known 0 = .ok (.iload_n 1, 1) := by decide +kernel
theorem dX9_known_1 : decode cX9_known 1 = .ok (.istore_n 2, 1) := by decide +kernel
theorem dX9_known_2 : decode cX9_known 2 = .ok (.iconst 0, 1) := by decide +kernel
theorem dX9_known_3 : decode cX9_known 3 = .ok (.istore_n 3, 1) := by decide +kernel
theorem dX9_known_4 : decode cX9_known 4 = .ok (.iload_n 3, 1) := by decide +kernel
theorem dX9_known_5 : decode cX9_known 5 = .ok (.iload_n 1, 1) := by decide +kernel
theorem dX9_known_6 : decode cX9_known 6 = .ok (.if_icmp .ge 84, 3) := by decide +kernel
theorem dX9_known_9 : decode cX9_known 9 = .ok (.iload_n 2, 1) := by decide +kernel
theorem dX9_known_10 : decode cX9_known 10 = .ok (.iload_n 1, 1) := by decide +kernel
theorem dX9_known_11 : decode cX9_known 11 = .ok (.if_icmp .ne 79, 3) := by decide +kernel
theorem dX9_known_14 : decode cX9_known 14 = .ok (.iconst 1, 1) := by decide +kernel
theorem dX9_known_15 : decode cX9_known 15 = .ok (.istore 4, 2) := by decide +kernel
theorem dX9_known_17 : decode cX9_known 17 = .ok (.iconst 0, 1) := by decide +kernel
theorem dX9_known_18 : decode cX9_known 18 = .ok (.istore 5, 2) := by decide +kernel
theorem dX9_known_20 : decode cX9_known 20 = .ok (.iload 5, 2) := by decide +kernel
theorem dX9_known_22 : decode cX9_known 22 = .ok (.bipush 8, 2) := by decide +kernel
theorem dX9_known_24 : decode cX9_known 24 = .ok (.if_icmp .ge 49, 3) := by decide +kernel
theorem dX9_known_27 : decode cX9_known 27 = .ok (.iload 4, 2) := by decide +kernel
theorem dX9_known_29 : decode cX9_known 29 = .ok (.ifCond .eq 35, 3) := by decide +kernel
theorem dX9_known_32 : decode cX9_known 32 = .ok (.aload_n 0, 1) := by decide +kernel
theorem dX9_known_33 : decode cX9_known 33 = .ok (.getfield 88, 3) := by decide +kernel
theorem dX9_known_36 : decode cX9_known 36 = .ok (.bipush 8, 2) := by decide +kernel
theorem dX9_known_38 : decode cX9_known 38 = .ok (.iload_n 3, 1) := by decide +kernel
theorem dX9_known_39 : decode cX9_known 39 = .ok (.imul, 1) := by decide +kernel
theorem dX9_known_40 : decode cX9_known 40 = .ok (.iload 5, 2) := by decide +kernel
theorem dX9_known_42 : decode cX9_known 42 = .ok (.iadd, 1) := by decide +kernel
theorem dX9_known_43 : decode cX9_known 43 = .ok (.laload, 1) := by decide +kernel
theorem dX9_known_44 : decode cX9_known 44 = .ok (.aload_n 0, 1) := by decide +kernel
theorem dX9_known_45 : decode cX9_known 45 = .ok (.getfield 88, 3) := by decide +kernel
theorem dX9_known_48 : decode cX9_known 48 = .ok (.bipush 8, 2) := by decide +kernel
theorem dX9_known_50 : decode cX9_known 50 = .ok (.iload_n 1, 1) := by decide +kernel
theorem dX9_known_51 : decode cX9_known 51 = .ok (.imul, 1) := by decide +kernel
theorem dX9_known_52 : decode cX9_known 52 = .ok (.iload 5, 2) := by decide +kernel
theorem dX9_known_54 : decode cX9_known 54 = .ok (.iadd, 1) := by decide +kernel
theorem dX9_known_55 : decode cX9_known 55 = .ok (.laload, 1) := by decide +kernel
theorem dX9_known_56 : decode cX9_known 56 = .ok (.lcmp, 1) := by decide +kernel
theorem dX9_known_57 : decode cX9_known 57 = .ok (.ifCond .ne 7, 3) := by decide +kernel
theorem dX9_known_60 : decode cX9_known 60 = .ok (.iconst 1, 1) := by decide +kernel
theorem dX9_known_61 : decode cX9_known 61 = .ok (.goto 4, 3) := by decide +kernel
theorem dX9_known_64 : decode cX9_known 64 = .ok (.iconst 0, 1) := by decide +kernel
theorem dX9_known_65 : decode cX9_known 65 = .ok (.istore 4, 2) := by decide +kernel
theorem dX9_known_67 : decode cX9_known 67 = .ok (.iinc 5 1, 3) := by decide +kernel
theorem dX9_known_70 : decode cX9_known 70 = .ok (.goto (-50), 3) := by decide +kernel
theorem dX9_known_73 : decode cX9_known 73 = .ok (.iload 4, 2) := by decide +kernel
theorem dX9_known_75 : decode cX9_known 75 = .ok (.ifCond .eq 7, 3) := by decide +kernel
theorem dX9_known_78 : decode cX9_known 78 = .ok (.iload_n 3, 1) := by decide +kernel
theorem dX9_known_79 : decode cX9_known 79 = .ok (.goto 4, 3) := by decide +kernel
theorem dX9_known_82 : decode cX9_known 82 = .ok (.iload_n 2, 1) := by decide +kernel
theorem dX9_known_83 : decode cX9_known 83 = .ok (.istore_n 2, 1) := by decide +kernel
theorem dX9_known_84 : decode cX9_known 84 = .ok (.iinc 3 1, 3) := by decide +kernel
theorem dX9_known_87 : decode cX9_known 87 = .ok (.goto (-83), 3) := by decide +kernel
theorem dX9_known_90 : decode cX9_known 90 = .ok (.iload_n 2, 1) := by decide +kernel
theorem dX9_known_91 : decode cX9_known 91 = .ok (.iload_n 1, 1) := by decide +kernel
theorem dX9_known_92 : decode cX9_known 92 = .ok (.if_icmp .ne 11, 3) := by decide +kernel
theorem dX9_known_95 : decode cX9_known 95 = .ok (.iload_n 1, 1) := by decide +kernel
theorem dX9_known_96 : decode cX9_known 96 = .ok (.bipush 40, 2) := by decide +kernel
theorem dX9_known_98 : decode cX9_known 98 = .ok (.if_icmp .ne 5, 3) := by decide +kernel
theorem dX9_known_101 : decode cX9_known 101 = .ok (.iconst (-1), 1) := by decide +kernel
theorem dX9_known_102 : decode cX9_known 102 = .ok (.ireturn, 1) := by decide +kernel
theorem dX9_known_103 : decode cX9_known 103 = .ok (.aload_n 0, 1) := by decide +kernel
theorem dX9_known_104 : decode cX9_known 104 = .ok (.dup, 1) := by decide +kernel
theorem dX9_known_105 : decode cX9_known 105 = .ok (.getfield 240, 3) := by decide +kernel
theorem dX9_known_108 : decode cX9_known 108 = .ok (.iload_n 2, 1) := by decide +kernel
theorem dX9_known_109 : decode cX9_known 109 = .ok (.iload_n 1, 1) := by decide +kernel
theorem dX9_known_110 : decode cX9_known 110 = .ok (.if_icmp .ne 7, 3) := by decide +kernel
theorem dX9_known_113 : decode cX9_known 113 = .ok (.iconst 1, 1) := by decide +kernel
theorem dX9_known_114 : decode cX9_known 114 = .ok (.goto 4, 3) := by decide +kernel
theorem dX9_known_117 : decode cX9_known 117 = .ok (.iconst 0, 1) := by decide +kernel
theorem dX9_known_118 : decode cX9_known 118 = .ok (.iadd, 1) := by decide +kernel
theorem dX9_known_119 : decode cX9_known 119 = .ok (.putfield 240, 3) := by decide +kernel
theorem dX9_known_122 : decode cX9_known 122 = .ok (.iload_n 2, 1) := by decide +kernel
theorem dX9_known_123 : decode cX9_known 123 = .ok (.ireturn, 1) := by decide +kernel
theorem dX9_gather_0 : decode cX9_gather 0 = .ok (.iconst 0, 1) := by decide +kernel
theorem dX9_gather_1 : decode cX9_gather 1 = .ok (.istore_n 1, 1) := by decide +kernel
theorem dX9_gather_2 : decode cX9_gather 2 = .ok (.iload_n 1, 1) := by decide +kernel
theorem dX9_gather_3 : decode cX9_gather 3 = .ok (.bipush 8, 2) := by decide +kernel
theorem dX9_gather_5 : decode cX9_gather 5 = .ok (.if_icmp .ge 45, 3) := by decide +kernel
theorem dX9_gather_8 : decode cX9_gather 8 = .ok (.iconst 0, 1) := by decide +kernel
theorem dX9_gather_9 : decode cX9_gather 9 = .ok (.istore_n 2, 1) := by decide +kernel
theorem dX9_gather_10 : decode cX9_gather 10 = .ok (.iload_n 2, 1) := by decide +kernel
theorem dX9_gather_11 : decode cX9_gather 11 = .ok (.iconst 1, 1) := by decide +kernel
theorem dX9_gather_12 : decode cX9_gather 12 = .ok (.aload_n 0, 1) := by decide +kernel
theorem dX9_gather_13 : decode cX9_gather 13 = .ok (.getfield 187, 3) := by decide +kernel
theorem dX9_gather_16 : decode cX9_gather 16 = .ok (.ishl, 1) := by decide +kernel
theorem dX9_gather_17 : decode cX9_gather 17 = .ok (.if_icmp .ge 27, 3) := by decide +kernel
theorem dX9_gather_20 : decode cX9_gather 20 = .ok (.aload_n 0, 1) := by decide +kernel
theorem dX9_gather_21 : decode cX9_gather 21 = .ok (.getfield 79, 3) := by decide +kernel
theorem dX9_gather_24 : decode cX9_gather 24 = .ok (.sipush 512, 3) := by decide +kernel
theorem dX9_gather_27 : decode cX9_gather 27 = .ok (.iload_n 1, 1) := by decide +kernel
theorem dX9_gather_28 : decode cX9_gather 28 = .ok (.imul, 1) := by decide +kernel
theorem dX9_gather_29 : decode cX9_gather 29 = .ok (.iload_n 2, 1) := by decide +kernel
theorem dX9_gather_30 : decode cX9_gather 30 = .ok (.iadd, 1) := by decide +kernel
theorem dX9_gather_31 : decode cX9_gather 31 = .ok (.aload_n 0, 1) := by decide +kernel
theorem dX9_gather_32 : decode cX9_gather 32 = .ok (.iload_n 1, 1) := by decide +kernel
theorem dX9_gather_33 : decode cX9_gather 33 = .ok (.iload_n 2, 1) := by decide +kernel
theorem dX9_gather_34 : decode cX9_gather 34 = .ok (.invokevirtual 249, 3) := by decide +kernel
theorem dX9_gather_37 : decode cX9_gather 37 = .ok (.iastore, 1) := by decide +kernel
theorem dX9_gather_38 : decode cX9_gather 38 = .ok (.iinc 2 1, 3) := by decide +kernel
theorem dX9_gather_41 : decode cX9_gather 41 = .ok (.goto (-31), 3) := by decide +kernel
theorem dX9_gather_44 : decode cX9_gather 44 = .ok (.iinc 1 1, 3) := by decide +kernel
theorem dX9_gather_47 : decode cX9_gather 47 = .ok (.goto (-45), 3) := by decide +kernel
theorem dX9_gather_50 : decode cX9_gather 50 = .ok (.aload_n 0, 1) := by decide +kernel
theorem dX9_gather_51 : decode cX9_gather 51 = .ok (.iconst 0, 1) := by decide +kernel
theorem dX9_gather_52 : decode cX9_gather 52 = .ok (.putfield 240, 3) := by decide +kernel
theorem dX9_gather_55 : decode cX9_gather 55 = .ok (.iconst 0, 1) := by decide +kernel
theorem dX9_gather_56 : decode cX9_gather 56 = .ok (.istore_n 1, 1) := by decide +kernel
theorem dX9_gather_57 : decode cX9_gather 57 = .ok (.iload_n 1, 1) := by decide +kernel
theorem dX9_gather_58 : decode cX9_gather 58 = .ok (.bipush 8, 2) := by decide +kernel
theorem dX9_gather_60 : decode cX9_gather 60 = .ok (.if_icmp .ge 16, 3) := by decide +kernel
theorem dX9_gather_63 : decode cX9_gather 63 = .ok (.aload_n 0, 1) := by decide +kernel
theorem dX9_gather_64 : decode cX9_gather 64 = .ok (.getfield 88, 3) := by decide +kernel
theorem dX9_gather_67 : decode cX9_gather 67 = .ok (.iload_n 1, 1) := by decide +kernel
theorem dX9_gather_68 : decode cX9_gather 68 = .ok (.lconst 0, 1) := by decide +kernel
theorem dX9_gather_69 : decode cX9_gather 69 = .ok (.lastore, 1) := by decide +kernel
theorem dX9_gather_70 : decode cX9_gather 70 = .ok (.iinc 1 1, 3) := by decide +kernel
theorem dX9_gather_73 : decode cX9_gather 73 = .ok (.goto (-16), 3) := by decide +kernel
theorem dX9_gather_76 : decode cX9_gather 76 = .ok (.iconst 0, 1) := by decide +kernel
theorem dX9_gather_77 : decode cX9_gather 77 = .ok (.istore_n 1, 1) := by decide +kernel
theorem dX9_gather_78 : decode cX9_gather 78 = .ok (.iload_n 1, 1) := by decide +kernel
theorem dX9_gather_79 : decode cX9_gather 79 = .ok (.iconst 1, 1) := by decide +kernel
theorem dX9_gather_80 : decode cX9_gather 80 = .ok (.aload_n 0, 1) := by decide +kernel
theorem dX9_gather_81 : decode cX9_gather 81 = .ok (.getfield 187, 3) := by decide +kernel
theorem dX9_gather_84 : decode cX9_gather 84 = .ok (.ishl, 1) := by decide +kernel
theorem dX9_gather_85 : decode cX9_gather 85 = .ok (.if_icmp .ge 34, 3) := by decide +kernel
theorem dX9_gather_88 : decode cX9_gather 88 = .ok (.iload_n 1, 1) := by decide +kernel
theorem dX9_gather_89 : decode cX9_gather 89 = .ok (.iconst 1, 1) := by decide +kernel
theorem dX9_gather_90 : decode cX9_gather 90 = .ok (.iand, 1) := by decide +kernel
theorem dX9_gather_91 : decode cX9_gather 91 = .ok (.iconst 1, 1) := by decide +kernel
theorem dX9_gather_92 : decode cX9_gather 92 = .ok (.if_icmp .ne 21, 3) := by decide +kernel
theorem dX9_gather_95 : decode cX9_gather 95 = .ok (.aload_n 0, 1) := by decide +kernel
theorem dX9_gather_96 : decode cX9_gather 96 = .ok (.getfield 88, 3) := by decide +kernel
theorem dX9_gather_99 : decode cX9_gather 99 = .ok (.iload_n 1, 1) := by decide +kernel
theorem dX9_gather_100 : decode cX9_gather 100 = .ok (.bipush 6, 2) := by decide +kernel
theorem dX9_gather_102 : decode cX9_gather 102 = .ok (.ishr, 1) := by decide +kernel
theorem dX9_gather_103 : decode cX9_gather 103 = .ok (.dup2, 1) := by decide +kernel
theorem dX9_gather_104 : decode cX9_gather 104 = .ok (.laload, 1) := by decide +kernel
theorem dX9_gather_105 : decode cX9_gather 105 = .ok (.lconst 1, 1) := by decide +kernel
theorem dX9_gather_106 : decode cX9_gather 106 = .ok (.iload_n 1, 1) := by decide +kernel
theorem dX9_gather_107 : decode cX9_gather 107 = .ok (.bipush 63, 2) := by decide +kernel
theorem dX9_gather_109 : decode cX9_gather 109 = .ok (.iand, 1) := by decide +kernel
theorem dX9_gather_110 : decode cX9_gather 110 = .ok (.lshl, 1) := by decide +kernel
theorem dX9_gather_111 : decode cX9_gather 111 = .ok (.lor, 1) := by decide +kernel
theorem dX9_gather_112 : decode cX9_gather 112 = .ok (.lastore, 1) := by decide +kernel
theorem dX9_gather_113 : decode cX9_gather 113 = .ok (.iinc 1 1, 3) := by decide +kernel
theorem dX9_gather_116 : decode cX9_gather 116 = .ok (.goto (-38), 3) := by decide +kernel
theorem dX9_gather_119 : decode cX9_gather 119 = .ok (.aload_n 0, 1) := by decide +kernel
theorem dX9_gather_120 : decode cX9_gather 120 = .ok (.iconst 1, 1) := by decide +kernel
theorem dX9_gather_121 : decode cX9_gather 121 = .ok (.putfield 240, 3) := by decide +kernel
theorem dX9_gather_124 : decode cX9_gather 124 = .ok (.iconst 0, 1) := by decide +kernel
theorem dX9_gather_125 : decode cX9_gather 125 = .ok (.istore_n 1, 1) := by decide +kernel
theorem dX9_gather_126 : decode cX9_gather 126 = .ok (.iload_n 1, 1) := by decide +kernel
theorem dX9_gather_127 : decode cX9_gather 127 = .ok (.aload_n 0, 1) := by decide +kernel
theorem dX9_gather_128 : decode cX9_gather 128 = .ok (.getfield 240, 3) := by decide +kernel
theorem dX9_gather_131 : decode cX9_gather 131 = .ok (.if_icmp .ge 56, 3) := by decide +kernel
theorem dX9_gather_134 : decode cX9_gather 134 = .ok (.iconst 0, 1) := by decide +kernel
theorem dX9_gather_135 : decode cX9_gather 135 = .ok (.istore_n 2, 1) := by decide +kernel
theorem dX9_gather_136 : decode cX9_gather 136 = .ok (.iload_n 2, 1) := by decide +kernel
theorem dX9_gather_137 : decode cX9_gather 137 = .ok (.bipush 8, 2) := by decide +kernel
theorem dX9_gather_139 : decode cX9_gather 139 = .ok (.if_icmp .ge 42, 3) := by decide +kernel
theorem dX9_gather_142 : decode cX9_gather 142 = .ok (.aload_n 0, 1) := by decide +kernel
theorem dX9_gather_143 : decode cX9_gather 143 = .ok (.getfield 92, 3) := by decide +kernel
theorem dX9_gather_146 : decode cX9_gather 146 = .ok (.bipush 8, 2) := by decide +kernel
theorem dX9_gather_148 : decode cX9_gather 148 = .ok (.iload_n 1, 1) := by decide +kernel
theorem dX9_gather_149 : decode cX9_gather 149 = .ok (.imul, 1) := by decide +kernel
theorem dX9_gather_150 : decode cX9_gather 150 = .ok (.iload_n 2, 1) := by decide +kernel
theorem dX9_gather_151 : decode cX9_gather 151 = .ok (.iadd, 1) := by decide +kernel
theorem dX9_gather_152 : decode cX9_gather 152 = .ok (.aload_n 0, 1) := by decide +kernel
theorem dX9_gather_153 : decode cX9_gather 153 = .ok (.iload_n 1, 1) := by decide +kernel
theorem dX9_gather_154 : decode cX9_gather 154 = .ok (.iload_n 2, 1) := by decide +kernel
theorem dX9_gather_155 : decode cX9_gather 155 = .ok (.invokevirtual 253, 3) := by decide +kernel
theorem dX9_gather_158 : decode cX9_gather 158 = .ok (.iastore, 1) := by decide +kernel
theorem dX9_gather_159 : decode cX9_gather 159 = .ok (.aload_n 0, 1) := by decide +kernel
theorem dX9_gather_160 : decode cX9_gather 160 = .ok (.getfield 92, 3) := by decide +kernel
theorem dX9_gather_163 : decode cX9_gather 163 = .ok (.bipush 8, 2) := by decide +kernel
theorem dX9_gather_165 : decode cX9_gather 165 = .ok (.iload_n 1, 1) := by decide +kernel
theorem dX9_gather_166 : decode cX9_gather 166 = .ok (.imul, 1) := by decide +kernel
theorem dX9_gather_167 : decode cX9_gather 167 = .ok (.iload_n 2, 1) := by decide +kernel
theorem dX9_gather_168 : decode cX9_gather 168 = .ok (.iadd, 1) := by decide +kernel
theorem dX9_gather_169 : decode cX9_gather 169 = .ok (.iaload, 1) := by decide +kernel
theorem dX9_gather_170 : decode cX9_gather 170 = .ok (.ifCond .ge 5, 3) := by decide +kernel
theorem dX9_gather_173 : decode cX9_gather 173 = .ok (.iconst 0, 1) := by decide +kernel
theorem dX9_gather_174 : decode cX9_gather 174 = .ok (.ireturn, 1) := by decide +kernel
theorem dX9_gather_175 : decode cX9_gather 175 = .ok (.iinc 2 1, 3) := by decide +kernel
theorem dX9_gather_178 : decode cX9_gather 178 = .ok (.goto (-42), 3) := by decide +kernel
theorem dX9_gather_181 : decode cX9_gather 181 = .ok (.iinc 1 1, 3) := by decide +kernel
theorem dX9_gather_184 : decode cX9_gather 184 = .ok (.goto (-58), 3) := by decide +kernel
theorem dX9_gather_187 : decode cX9_gather 187 = .ok (.iconst 1, 1) := by decide +kernel
theorem dX9_gather_188 : decode cX9_gather 188 = .ok (.ireturn, 1) := by decide +kernel
theorem dX9_fail_0 : decode cX9_fail 0 = .ok (.iconst 0, 1) := by decide +kernel
theorem dX9_fail_1 : decode cX9_fail 1 = .ok (.istore_n 1, 1) := by decide +kernel
theorem dX9_fail_2 : decode cX9_fail 2 = .ok (.iload_n 1, 1) := by decide +kernel
theorem dX9_fail_3 : decode cX9_fail 3 = .ok (.aload_n 0, 1) := by decide +kernel
theorem dX9_fail_4 : decode cX9_fail 4 = .ok (.getfield 240, 3) := by decide +kernel
theorem dX9_fail_7 : decode cX9_fail 7 = .ok (.if_icmp .ge 36, 3) := by decide +kernel
theorem dX9_fail_10 : decode cX9_fail 10 = .ok (.aload_n 0, 1) := by decide +kernel
theorem dX9_fail_11 : decode cX9_fail 11 = .ok (.getfield 95, 3) := by decide +kernel
theorem dX9_fail_14 : decode cX9_fail 14 = .ok (.iload_n 1, 1) := by decide +kernel
theorem dX9_fail_15 : decode cX9_fail 15 = .ok (.aload_n 0, 1) := by decide +kernel
theorem dX9_fail_16 : decode cX9_fail 16 = .ok (.iload_n 1, 1) := by decide +kernel
theorem dX9_fail_17 : decode cX9_fail 17 = .ok (.iconst 1, 1) := by decide +kernel
theorem dX9_fail_18 : decode cX9_fail 18 = .ok (.aload_n 0, 1) := by decide +kernel
theorem dX9_fail_19 : decode cX9_fail 19 = .ok (.getfield 187, 3) := by decide +kernel
theorem dX9_fail_22 : decode cX9_fail 22 = .ok (.ishl, 1) := by decide +kernel
theorem dX9_fail_23 : decode cX9_fail 23 = .ok (.iconst 1, 1) := by decide +kernel
theorem dX9_fail_24 : decode cX9_fail 24 = .ok (.isub, 1) := by decide +kernel
theorem dX9_fail_25 : decode cX9_fail 25 = .ok (.invokevirtual 243, 3) := by decide +kernel
theorem dX9_fail_28 : decode cX9_fail 28 = .ok (.ifCond .ne 7, 3) := by decide +kernel
theorem dX9_fail_31 : decode cX9_fail 31 = .ok (.iconst 1, 1) := by decide +kernel
theorem dX9_fail_32 : decode cX9_fail 32 = .ok (.goto 4, 3) := by decide +kernel
theorem dX9_fail_35 : decode cX9_fail 35 = .ok (.iconst 0, 1) := by decide +kernel
theorem dX9_fail_36 : decode cX9_fail 36 = .ok (.bastore, 1) := by decide +kernel
theorem dX9_fail_37 : decode cX9_fail 37 = .ok (.iinc 1 1, 3) := by decide +kernel
theorem dX9_fail_40 : decode cX9_fail 40 = .ok (.goto (-38), 3) := by decide +kernel
theorem dX9_fail_43 : decode cX9_fail 43 = .ok (.iconst 1, 1) := by decide +kernel
theorem dX9_fail_44 : decode cX9_fail 44 = .ok (.istore_n 1, 1) := by decide +kernel
theorem dX9_fail_45 : decode cX9_fail 45 = .ok (.iconst 0, 1) := by decide +kernel
theorem dX9_fail_46 : decode cX9_fail 46 = .ok (.istore_n 2, 1) := by decide +kernel
theorem dX9_fail_47 : decode cX9_fail 47 = .ok (.iload_n 2, 1) := by decide +kernel
theorem dX9_fail_48 : decode cX9_fail 48 = .ok (.bipush 40, 2) := by decide +kernel
theorem dX9_fail_50 : decode cX9_fail 50 = .ok (.if_icmp .gt 131, 3) := by decide +kernel
theorem dX9_fail_53 : decode cX9_fail 53 = .ok (.iload_n 1, 1) := by decide +kernel
theorem dX9_fail_54 : decode cX9_fail 54 = .ok (.ifCond .eq 127, 3) := by decide +kernel
theorem dX9_fail_57 : decode cX9_fail 57 = .ok (.iconst 0, 1) := by decide +kernel
theorem dX9_fail_58 : decode cX9_fail 58 = .ok (.istore_n 1, 1) := by decide +kernel
theorem dX9_fail_59 : decode cX9_fail 59 = .ok (.iconst 0, 1) := by decide +kernel
theorem dX9_fail_60 : decode cX9_fail 60 = .ok (.istore_n 3, 1) := by decide +kernel
theorem dX9_fail_61 : decode cX9_fail 61 = .ok (.iload_n 3, 1) := by decide +kernel
theorem dX9_fail_62 : decode cX9_fail 62 = .ok (.aload_n 0, 1) := by decide +kernel
theorem dX9_fail_63 : decode cX9_fail 63 = .ok (.getfield 240, 3) := by decide +kernel
theorem dX9_fail_66 : decode cX9_fail 66 = .ok (.if_icmp .ge 109, 3) := by decide +kernel
theorem dX9_fail_69 : decode cX9_fail 69 = .ok (.iconst 1, 1) := by decide +kernel
theorem dX9_fail_70 : decode cX9_fail 70 = .ok (.istore 4, 2) := by decide +kernel
theorem dX9_fail_72 : decode cX9_fail 72 = .ok (.iconst 0, 1) := by decide +kernel
theorem dX9_fail_73 : decode cX9_fail 73 = .ok (.istore 5, 2) := by decide +kernel
theorem dX9_fail_75 : decode cX9_fail 75 = .ok (.iload 5, 2) := by decide +kernel
theorem dX9_fail_77 : decode cX9_fail 77 = .ok (.bipush 8, 2) := by decide +kernel
theorem dX9_fail_79 : decode cX9_fail 79 = .ok (.if_icmp .ge 41, 3) := by decide +kernel
theorem dX9_fail_82 : decode cX9_fail 82 = .ok (.iload 4, 2) := by decide +kernel
theorem dX9_fail_84 : decode cX9_fail 84 = .ok (.ifCond .eq 27, 3) := by decide +kernel
theorem dX9_fail_87 : decode cX9_fail 87 = .ok (.aload_n 0, 1) := by decide +kernel
theorem dX9_fail_88 : decode cX9_fail 88 = .ok (.getfield 95, 3) := by decide +kernel
theorem dX9_fail_91 : decode cX9_fail 91 = .ok (.aload_n 0, 1) := by decide +kernel
theorem dX9_fail_92 : decode cX9_fail 92 = .ok (.getfield 92, 3) := by decide +kernel
theorem dX9_fail_95 : decode cX9_fail 95 = .ok (.bipush 8, 2) := by decide +kernel
theorem dX9_fail_97 : decode cX9_fail 97 = .ok (.iload_n 3, 1) := by decide +kernel
theorem dX9_fail_98 : decode cX9_fail 98 = .ok (.imul, 1) := by decide +kernel
theorem dX9_fail_99 : decode cX9_fail 99 = .ok (.iload 5, 2) := by decide +kernel
theorem dX9_fail_101 : decode cX9_fail 101 = .ok (.iadd, 1) := by decide +kernel
theorem dX9_fail_102 : decode cX9_fail 102 = .ok (.iaload, 1) := by decide +kernel
theorem dX9_fail_103 : decode cX9_fail 103 = .ok (.baload, 1) := by decide +kernel
theorem dX9_fail_104 : decode cX9_fail 104 = .ok (.ifCond .eq 7, 3) := by decide +kernel
theorem dX9_fail_107 : decode cX9_fail 107 = .ok (.iconst 1, 1) := by decide +kernel
theorem dX9_fail_108 : decode cX9_fail 108 = .ok (.goto 4, 3) := by decide +kernel
theorem dX9_fail_111 : decode cX9_fail 111 = .ok (.iconst 0, 1) := by decide +kernel
theorem dX9_fail_112 : decode cX9_fail 112 = .ok (.istore 4, 2) := by decide +kernel
theorem dX9_fail_114 : decode cX9_fail 114 = .ok (.iinc 5 1, 3) := by decide +kernel
theorem dX9_fail_117 : decode cX9_fail 117 = .ok (.goto (-42), 3) := by decide +kernel
theorem dX9_fail_120 : decode cX9_fail 120 = .ok (.iload_n 1, 1) := by decide +kernel
theorem dX9_fail_121 : decode cX9_fail 121 = .ok (.ifCond .ne 17, 3) := by decide +kernel
theorem dX9_fail_124 : decode cX9_fail 124 = .ok (.iload 4, 2) := by decide +kernel
theorem dX9_fail_126 : decode cX9_fail 126 = .ok (.ifCond .eq 16, 3) := by decide +kernel
theorem dX9_fail_129 : decode cX9_fail 129 = .ok (.aload_n 0, 1) := by decide +kernel
theorem dX9_fail_130 : decode cX9_fail 130 = .ok (.getfield 95, 3) := by decide +kernel
theorem dX9_fail_133 : decode cX9_fail 133 = .ok (.iload_n 3, 1) := by decide +kernel
theorem dX9_fail_134 : decode cX9_fail 134 = .ok (.baload, 1) := by decide +kernel
theorem dX9_fail_135 : decode cX9_fail 135 = .ok (.ifCond .ne 7, 3) := by decide +kernel
theorem dX9_fail_138 : decode cX9_fail 138 = .ok (.iconst 1, 1) := by decide +kernel
theorem dX9_fail_139 : decode cX9_fail 139 = .ok (.goto 4, 3) := by decide +kernel
theorem dX9_fail_142 : decode cX9_fail 142 = .ok (.iconst 0, 1) := by decide +kernel
theorem dX9_fail_143 : decode cX9_fail 143 = .ok (.istore_n 1, 1) := by decide +kernel
theorem dX9_fail_144 : decode cX9_fail 144 = .ok (.aload_n 0, 1) := by decide +kernel
theorem dX9_fail_145 : decode cX9_fail 145 = .ok (.getfield 95, 3) := by decide +kernel
theorem dX9_fail_148 : decode cX9_fail 148 = .ok (.iload_n 3, 1) := by decide +kernel
theorem dX9_fail_149 : decode cX9_fail 149 = .ok (.aload_n 0, 1) := by decide +kernel
theorem dX9_fail_150 : decode cX9_fail 150 = .ok (.getfield 95, 3) := by decide +kernel
theorem dX9_fail_153 : decode cX9_fail 153 = .ok (.iload_n 3, 1) := by decide +kernel
theorem dX9_fail_154 : decode cX9_fail 154 = .ok (.baload, 1) := by decide +kernel
theorem dX9_fail_155 : decode cX9_fail 155 = .ok (.ifCond .ne 8, 3) := by decide +kernel
theorem dX9_fail_158 : decode cX9_fail 158 = .ok (.iload 4, 2) := by decide +kernel
theorem dX9_fail_160 : decode cX9_fail 160 = .ok (.ifCond .eq 7, 3) := by decide +kernel
theorem dX9_fail_163 : decode cX9_fail 163 = .ok (.iconst 1, 1) := by decide +kernel
theorem dX9_fail_164 : decode cX9_fail 164 = .ok (.goto 4, 3) := by decide +kernel
theorem dX9_fail_167 : decode cX9_fail 167 = .ok (.iconst 0, 1) := by decide +kernel
theorem dX9_fail_168 : decode cX9_fail 168 = .ok (.bastore, 1) := by decide +kernel
theorem dX9_fail_169 : decode cX9_fail 169 = .ok (.iinc 3 1, 3) := by decide +kernel
theorem dX9_fail_172 : decode cX9_fail 172 = .ok (.goto (-111), 3) := by decide +kernel
theorem dX9_fail_175 : decode cX9_fail 175 = .ok (.iinc 2 1, 3) := by decide +kernel
theorem dX9_fail_178 : decode cX9_fail 178 = .ok (.goto (-131), 3) := by decide +kernel
theorem dX9_fail_181 : decode cX9_fail 181 = .ok (.return_, 1) := by decide +kernel
theorem dX9_sortAt_0 : decode cX9_sortAt 0 = .ok (.aload_n 0, 1) := by decide +kernel
theorem dX9_sortAt_1 : decode cX9_sortAt 1 = .ok (.getfield 92, 3) := by decide +kernel
theorem dX9_sortAt_4 : decode cX9_sortAt 4 = .ok (.bipush 8, 2) := by decide +kernel
theorem dX9_sortAt_6 : decode cX9_sortAt 6 = .ok (.iload_n 1, 1) := by decide +kernel
theorem dX9_sortAt_7 : decode cX9_sortAt 7 = .ok (.imul, 1) := by decide +kernel
theorem dX9_sortAt_8 : decode cX9_sortAt 8 = .ok (.iload_n 2, 1) := by decide +kernel
theorem dX9_sortAt_9 : decode cX9_sortAt 9 = .ok (.iadd, 1) := by decide +kernel
theorem dX9_sortAt_10 : decode cX9_sortAt 10 = .ok (.iaload, 1) := by decide +kernel
theorem dX9_sortAt_11 : decode cX9_sortAt 11 = .ok (.istore_n 3, 1) := by decide +kernel
theorem dX9_sortAt_12 : decode cX9_sortAt 12 = .ok (.aload_n 0, 1) := by decide +kernel
theorem dX9_sortAt_13 : decode cX9_sortAt 13 = .ok (.getfield 95, 3) := by decide +kernel
theorem dX9_sortAt_16 : decode cX9_sortAt 16 = .ok (.iload_n 3, 1) := by decide +kernel
theorem dX9_sortAt_17 : decode cX9_sortAt 17 = .ok (.baload, 1) := by decide +kernel
theorem dX9_sortAt_18 : decode cX9_sortAt 18 = .ok (.ifCond .eq 7, 3) := by decide +kernel
theorem dX9_sortAt_21 : decode cX9_sortAt 21 = .ok (.iconst (-1), 1) := by decide +kernel
theorem dX9_sortAt_22 : decode cX9_sortAt 22 = .ok (.goto 9, 3) := by decide +kernel
theorem dX9_sortAt_25 : decode cX9_sortAt 25 = .ok (.aload_n 0, 1) := by decide +kernel
theorem dX9_sortAt_26 : decode cX9_sortAt 26 = .ok (.getfield 98, 3) := by decide +kernel
theorem dX9_sortAt_29 : decode cX9_sortAt 29 = .ok (.iload_n 3, 1) := by decide +kernel
theorem dX9_sortAt_30 : decode cX9_sortAt 30 = .ok (.iaload, 1) := by decide +kernel
theorem dX9_sortAt_31 : decode cX9_sortAt 31 = .ok (.ireturn, 1) := by decide +kernel
theorem dX9_split_0 : decode cX9_split 0 = .ok (.iconst 0, 1) := by decide +kernel
theorem dX9_split_1 : decode cX9_split 1 = .ok (.istore_n 1, 1) := by decide +kernel
theorem dX9_split_2 : decode cX9_split 2 = .ok (.iload_n 1, 1) := by decide +kernel
theorem dX9_split_3 : decode cX9_split 3 = .ok (.aload_n 0, 1) := by decide +kernel
theorem dX9_split_4 : decode cX9_split 4 = .ok (.getfield 240, 3) := by decide +kernel
theorem dX9_split_7 : decode cX9_split 7 = .ok (.if_icmp .ge 16, 3) := by decide +kernel
theorem dX9_split_10 : decode cX9_split 10 = .ok (.aload_n 0, 1) := by decide +kernel
theorem dX9_split_11 : decode cX9_split 11 = .ok (.getfield 98, 3) := by decide +kernel
theorem dX9_split_14 : decode cX9_split 14 = .ok (.iload_n 1, 1) := by decide +kernel
theorem dX9_split_15 : decode cX9_split 15 = .ok (.iconst 0, 1) := by decide +kernel
theorem dX9_split_16 : decode cX9_split 16 = .ok (.iastore, 1) := by decide +kernel
theorem dX9_split_17 : decode cX9_split 17 = .ok (.iinc 1 1, 3) := by decide +kernel
theorem dX9_split_20 : decode cX9_split 20 = .ok (.goto (-18), 3) := by decide +kernel
theorem dX9_split_23 : decode cX9_split 23 = .ok (.iconst 0, 1) := by decide +kernel
theorem dX9_split_24 : decode cX9_split 24 = .ok (.istore_n 1, 1) := by decide +kernel
theorem dX9_split_25 : decode cX9_split 25 = .ok (.iload_n 1, 1) := by decide +kernel
theorem dX9_split_26 : decode cX9_split 26 = .ok (.bipush 40, 2) := by decide +kernel
theorem dX9_split_28 : decode cX9_split 28 = .ok (.if_icmp .ge 224, 3) := by decide +kernel
theorem dX9_split_31 : decode cX9_split 31 = .ok (.iconst 0, 1) := by decide +kernel
theorem dX9_split_32 : decode cX9_split 32 = .ok (.istore_n 2, 1) := by decide +kernel
theorem dX9_split_33 : decode cX9_split 33 = .ok (.iconst 0, 1) := by decide +kernel
theorem dX9_split_34 : decode cX9_split 34 = .ok (.istore_n 3, 1) := by decide +kernel
theorem dX9_split_35 : decode cX9_split 35 = .ok (.iload_n 3, 1) := by decide +kernel
theorem dX9_split_36 : decode cX9_split 36 = .ok (.aload_n 0, 1) := by decide +kernel
theorem dX9_split_37 : decode cX9_split 37 = .ok (.getfield 240, 3) := by decide +kernel
theorem dX9_split_40 : decode cX9_split 40 = .ok (.if_icmp .ge 178, 3) := by decide +kernel
theorem dX9_split_43 : decode cX9_split 43 = .ok (.iconst (-1), 1) := by decide +kernel
theorem dX9_split_44 : decode cX9_split 44 = .ok (.istore 4, 2) := by decide +kernel
theorem dX9_split_46 : decode cX9_split 46 = .ok (.iconst 0, 1) := by decide +kernel
theorem dX9_split_47 : decode cX9_split 47 = .ok (.istore 5, 2) := by decide +kernel
theorem dX9_split_49 : decode cX9_split 49 = .ok (.iload 5, 2) := by decide +kernel
theorem dX9_split_51 : decode cX9_split 51 = .ok (.iload_n 3, 1) := by decide +kernel
theorem dX9_split_52 : decode cX9_split 52 = .ok (.if_icmp .ge 116, 3) := by decide +kernel
theorem dX9_split_55 : decode cX9_split 55 = .ok (.iload 4, 2) := by decide +kernel
theorem dX9_split_57 : decode cX9_split 57 = .ok (.ifCond .ge 111, 3) := by decide +kernel
theorem dX9_split_60 : decode cX9_split 60 = .ok (.aload_n 0, 1) := by decide +kernel
theorem dX9_split_61 : decode cX9_split 61 = .ok (.getfield 95, 3) := by decide +kernel
theorem dX9_split_64 : decode cX9_split 64 = .ok (.iload_n 3, 1) := by decide +kernel
theorem dX9_split_65 : decode cX9_split 65 = .ok (.baload, 1) := by decide +kernel
theorem dX9_split_66 : decode cX9_split 66 = .ok (.ifCond .ne 102, 3) := by decide +kernel
theorem dX9_split_69 : decode cX9_split 69 = .ok (.aload_n 0, 1) := by decide +kernel
theorem dX9_split_70 : decode cX9_split 70 = .ok (.getfield 95, 3) := by decide +kernel
theorem dX9_split_73 : decode cX9_split 73 = .ok (.iload 5, 2) := by decide +kernel
theorem dX9_split_75 : decode cX9_split 75 = .ok (.baload, 1) := by decide +kernel
theorem dX9_split_76 : decode cX9_split 76 = .ok (.ifCond .ne 23, 3) := by decide +kernel
theorem dX9_split_79 : decode cX9_split 79 = .ok (.aload_n 0, 1) := by decide +kernel
theorem dX9_split_80 : decode cX9_split 80 = .ok (.getfield 98, 3) := by decide +kernel
theorem dX9_split_83 : decode cX9_split 83 = .ok (.iload_n 3, 1) := by decide +kernel
theorem dX9_split_84 : decode cX9_split 84 = .ok (.iaload, 1) := by decide +kernel
theorem dX9_split_85 : decode cX9_split 85 = .ok (.aload_n 0, 1) := by decide +kernel
theorem dX9_split_86 : decode cX9_split 86 = .ok (.getfield 98, 3) := by decide +kernel
theorem dX9_split_89 : decode cX9_split 89 = .ok (.iload 5, 2) := by decide +kernel
theorem dX9_split_91 : decode cX9_split 91 = .ok (.iaload, 1) := by decide +kernel
theorem dX9_split_92 : decode cX9_split 92 = .ok (.if_icmp .ne 7, 3) := by decide +kernel
theorem dX9_split_95 : decode cX9_split 95 = .ok (.iconst 1, 1) := by decide +kernel
theorem dX9_split_96 : decode cX9_split 96 = .ok (.goto 4, 3) := by decide +kernel
theorem dX9_split_99 : decode cX9_split 99 = .ok (.iconst 0, 1) := by decide +kernel
theorem dX9_split_100 : decode cX9_split 100 = .ok (.istore 6, 2) := by decide +kernel
theorem dX9_split_102 : decode cX9_split 102 = .ok (.iconst 0, 1) := by decide +kernel
theorem dX9_split_103 : decode cX9_split 103 = .ok (.istore 7, 2) := by decide +kernel
theorem dX9_split_105 : decode cX9_split 105 = .ok (.iload 7, 2) := by decide +kernel
theorem dX9_split_107 : decode cX9_split 107 = .ok (.bipush 8, 2) := by decide +kernel
theorem dX9_split_109 : decode cX9_split 109 = .ok (.if_icmp .ge 39, 3) := by decide +kernel
theorem dX9_split_112 : decode cX9_split 112 = .ok (.iload 6, 2) := by decide +kernel
theorem dX9_split_114 : decode cX9_split 114 = .ok (.ifCond .eq 25, 3) := by decide +kernel
theorem dX9_split_117 : decode cX9_split 117 = .ok (.aload_n 0, 1) := by decide +kernel
theorem dX9_split_118 : decode cX9_split 118 = .ok (.iload_n 3, 1) := by decide +kernel
theorem dX9_split_119 : decode cX9_split 119 = .ok (.iload 7, 2) := by decide +kernel
theorem dX9_split_121 : decode cX9_split 121 = .ok (.invokevirtual 256, 3) := by decide +kernel
theorem dX9_split_124 : decode cX9_split 124 = .ok (.aload_n 0, 1) := by decide +kernel
theorem dX9_split_125 : decode cX9_split 125 = .ok (.iload 5, 2) := by decide +kernel
theorem dX9_split_127 : decode cX9_split 127 = .ok (.iload 7, 2) := by decide +kernel
theorem dX9_split_129 : decode cX9_split 129 = .ok (.invokevirtual 256, 3) := by decide +kernel
theorem dX9_split_132 : decode cX9_split 132 = .ok (.if_icmp .ne 7, 3) := by decide +kernel
theorem dX9_split_135 : decode cX9_split 135 = .ok (.iconst 1, 1) := by decide +kernel
theorem dX9_split_136 : decode cX9_split 136 = .ok (.goto 4, 3) := by decide +kernel
theorem dX9_split_139 : decode cX9_split 139 = .ok (.iconst 0, 1) := by decide +kernel
theorem dX9_split_140 : decode cX9_split 140 = .ok (.istore 6, 2) := by decide +kernel
theorem dX9_split_142 : decode cX9_split 142 = .ok (.iinc 7 1, 3) := by decide +kernel
theorem dX9_split_145 : decode cX9_split 145 = .ok (.goto (-40), 3) := by decide +kernel
theorem dX9_split_148 : decode cX9_split 148 = .ok (.iload 6, 2) := by decide +kernel
theorem dX9_split_150 : decode cX9_split 150 = .ok (.ifCond .eq 8, 3) := by decide +kernel
theorem dX9_split_153 : decode cX9_split 153 = .ok (.iload 5, 2) := by decide +kernel
theorem dX9_split_155 : decode cX9_split 155 = .ok (.goto 5, 3) := by decide +kernel
theorem dX9_split_158 : decode cX9_split 158 = .ok (.iload 4, 2) := by decide +kernel
theorem dX9_split_160 : decode cX9_split 160 = .ok (.istore 4, 2) := by decide +kernel
theorem dX9_split_162 : decode cX9_split 162 = .ok (.iinc 5 1, 3) := by decide +kernel
theorem dX9_split_165 : decode cX9_split 165 = .ok (.goto (-116), 3) := by decide +kernel
theorem dX9_split_168 : decode cX9_split 168 = .ok (.aload_n 0, 1) := by decide +kernel
theorem dX9_split_169 : decode cX9_split 169 = .ok (.getfield 101, 3) := by decide +kernel
theorem dX9_split_172 : decode cX9_split 172 = .ok (.iload_n 3, 1) := by decide +kernel
theorem dX9_split_173 : decode cX9_split 173 = .ok (.iload 4, 2) := by decide +kernel
theorem dX9_split_175 : decode cX9_split 175 = .ok (.ifCond .ge 7, 3) := by decide +kernel
theorem dX9_split_178 : decode cX9_split 178 = .ok (.iload_n 2, 1) := by decide +kernel
theorem dX9_split_179 : decode cX9_split 179 = .ok (.goto 10, 3) := by decide +kernel
theorem dX9_split_182 : decode cX9_split 182 = .ok (.aload_n 0, 1) := by decide +kernel
theorem dX9_split_183 : decode cX9_split 183 = .ok (.getfield 101, 3) := by decide +kernel
theorem dX9_split_186 : decode cX9_split 186 = .ok (.iload 4, 2) := by decide +kernel
theorem dX9_split_188 : decode cX9_split 188 = .ok (.iaload, 1) := by decide +kernel
theorem dX9_split_189 : decode cX9_split 189 = .ok (.iastore, 1) := by decide +kernel
theorem dX9_split_190 : decode cX9_split 190 = .ok (.iload_n 2, 1) := by decide +kernel
theorem dX9_split_191 : decode cX9_split 191 = .ok (.iload 4, 2) := by decide +kernel
theorem dX9_split_193 : decode cX9_split 193 = .ok (.ifCond .ge 16, 3) := by decide +kernel
theorem dX9_split_196 : decode cX9_split 196 = .ok (.aload_n 0, 1) := by decide +kernel
theorem dX9_split_197 : decode cX9_split 197 = .ok (.getfield 95, 3) := by decide +kernel
theorem dX9_split_200 : decode cX9_split 200 = .ok (.iload_n 3, 1) := by decide +kernel
theorem dX9_split_201 : decode cX9_split 201 = .ok (.baload, 1) := by decide +kernel
theorem dX9_split_202 : decode cX9_split 202 = .ok (.ifCond .ne 7, 3) := by decide +kernel
theorem dX9_split_205 : decode cX9_split 205 = .ok (.iconst 1, 1) := by decide +kernel
theorem dX9_split_206 : decode cX9_split 206 = .ok (.goto 4, 3) := by decide +kernel
theorem dX9_split_209 : decode cX9_split 209 = .ok (.iconst 0, 1) := by decide +kernel
theorem dX9_split_210 : decode cX9_split 210 = .ok (.iadd, 1) := by decide +kernel
theorem dX9_split_211 : decode cX9_split 211 = .ok (.istore_n 2, 1) := by decide +kernel
theorem dX9_split_212 : decode cX9_split 212 = .ok (.iinc 3 1, 3) := by decide +kernel
theorem dX9_split_215 : decode cX9_split 215 = .ok (.goto (-180), 3) := by decide +kernel
theorem dX9_split_218 : decode cX9_split 218 = .ok (.iconst 0, 1) := by decide +kernel
theorem dX9_split_219 : decode cX9_split 219 = .ok (.istore_n 3, 1) := by decide +kernel
theorem dX9_split_220 : decode cX9_split 220 = .ok (.iload_n 3, 1) := by decide +kernel
theorem dX9_split_221 : decode cX9_split 221 = .ok (.aload_n 0, 1) := by decide +kernel
theorem dX9_split_222 : decode cX9_split 222 = .ok (.getfield 240, 3) := by decide +kernel
theorem dX9_split_225 : decode cX9_split 225 = .ok (.if_icmp .ge 21, 3) := by decide +kernel
theorem dX9_split_228 : decode cX9_split 228 = .ok (.aload_n 0, 1) := by decide +kernel
theorem dX9_split_229 : decode cX9_split 229 = .ok (.getfield 98, 3) := by decide +kernel
theorem dX9_split_232 : decode cX9_split 232 = .ok (.iload_n 3, 1) := by decide +kernel
theorem dX9_split_233 : decode cX9_split 233 = .ok (.aload_n 0, 1) := by decide +kernel
theorem dX9_split_234 : decode cX9_split 234 = .ok (.getfield 101, 3) := by decide +kernel
theorem dX9_split_237 : decode cX9_split 237 = .ok (.iload_n 3, 1) := by decide +kernel
theorem dX9_split_238 : decode cX9_split 238 = .ok (.iaload, 1) := by decide +kernel
theorem dX9_split_239 : decode cX9_split 239 = .ok (.iastore, 1) := by decide +kernel
theorem dX9_split_240 : decode cX9_split 240 = .ok (.iinc 3 1, 3) := by decide +kernel
theorem dX9_split_243 : decode cX9_split 243 = .ok (.goto (-23), 3) := by decide +kernel
theorem dX9_split_246 : decode cX9_split 246 = .ok (.iinc 1 1, 3) := by decide +kernel
theorem dX9_split_249 : decode cX9_split 249 = .ok (.goto (-224), 3) := by decide +kernel
theorem dX9_split_252 : decode cX9_split 252 = .ok (.return_, 1) := by decide +kernel
theorem dX9_number_0 : decode cX9_number 0 = .ok (.iconst 0, 1) := by decide +kernel
theorem dX9_number_1 : decode cX9_number 1 = .ok (.istore_n 1, 1) := by decide +kernel
theorem dX9_number_2 : decode cX9_number 2 = .ok (.iload_n 1, 1) := by decide +kernel
theorem dX9_number_3 : decode cX9_number 3 = .ok (.bipush 40, 2) := by decide +kernel
theorem dX9_number_5 : decode cX9_number 5 = .ok (.if_icmp .ge 16, 3) := by decide +kernel
theorem dX9_number_8 : decode cX9_number 8 = .ok (.aload_n 0, 1) := by decide +kernel
theorem dX9_number_9 : decode cX9_number 9 = .ok (.getfield 101, 3) := by decide +kernel
theorem dX9_number_12 : decode cX9_number 12 = .ok (.iload_n 1, 1) := by decide +kernel
theorem dX9_number_13 : decode cX9_number 13 = .ok (.iconst (-1), 1) := by decide +kernel
theorem dX9_number_14 : decode cX9_number 14 = .ok (.iastore, 1) := by decide +kernel
theorem dX9_number_15 : decode cX9_number 15 = .ok (.iinc 1 1, 3) := by decide +kernel
theorem dX9_number_18 : decode cX9_number 18 = .ok (.goto (-16), 3) := by decide +kernel
theorem dX9_number_21 : decode cX9_number 21 = .ok (.aload_n 0, 1) := by decide +kernel
theorem dX9_number_22 : decode cX9_number 22 = .ok (.iconst 0, 1) := by decide +kernel
theorem dX9_number_23 : decode cX9_number 23 = .ok (.putfield 104, 3) := by decide +kernel
theorem dX9_number_26 : decode cX9_number 26 = .ok (.aload_n 0, 1) := by decide +kernel
theorem dX9_number_27 : decode cX9_number 27 = .ok (.getfield 95, 3) := by decide +kernel
theorem dX9_number_30 : decode cX9_number 30 = .ok (.iconst 0, 1) := by decide +kernel
theorem dX9_number_31 : decode cX9_number 31 = .ok (.baload, 1) := by decide +kernel
theorem dX9_number_32 : decode cX9_number 32 = .ok (.ifCond .eq 4, 3) := by decide +kernel
theorem dX9_number_35 : decode cX9_number 35 = .ok (.return_, 1) := by decide +kernel
theorem dX9_number_36 : decode cX9_number 36 = .ok (.aload_n 0, 1) := by decide +kernel
theorem dX9_number_37 : decode cX9_number 37 = .ok (.getfield 101, 3) := by decide +kernel
theorem dX9_number_40 : decode cX9_number 40 = .ok (.aload_n 0, 1) := by decide +kernel
theorem dX9_number_41 : decode cX9_number 41 = .ok (.getfield 98, 3) := by decide +kernel
theorem dX9_number_44 : decode cX9_number 44 = .ok (.iconst 0, 1) := by decide +kernel
theorem dX9_number_45 : decode cX9_number 45 = .ok (.iaload, 1) := by decide +kernel
theorem dX9_number_46 : decode cX9_number 46 = .ok (.iconst 0, 1) := by decide +kernel
theorem dX9_number_47 : decode cX9_number 47 = .ok (.iastore, 1) := by decide +kernel
theorem dX9_number_48 : decode cX9_number 48 = .ok (.aload_n 0, 1) := by decide +kernel
theorem dX9_number_49 : decode cX9_number 49 = .ok (.iconst 1, 1) := by decide +kernel
theorem dX9_number_50 : decode cX9_number 50 = .ok (.putfield 104, 3) := by decide +kernel
theorem dX9_number_53 : decode cX9_number 53 = .ok (.iconst 0, 1) := by decide +kernel
theorem dX9_number_54 : decode cX9_number 54 = .ok (.istore_n 1, 1) := by decide +kernel
theorem dX9_number_55 : decode cX9_number 55 = .ok (.iload_n 1, 1) := by decide +kernel
theorem dX9_number_56 : decode cX9_number 56 = .ok (.aload_n 0, 1) := by decide +kernel
theorem dX9_number_57 : decode cX9_number 57 = .ok (.getfield 104, 3) := by decide +kernel
theorem dX9_number_60 : decode cX9_number 60 = .ok (.if_icmp .ge 126, 3) := by decide +kernel
theorem dX9_number_63 : decode cX9_number 63 = .ok (.iconst 0, 1) := by decide +kernel
theorem dX9_number_64 : decode cX9_number 64 = .ok (.istore_n 2, 1) := by decide +kernel
theorem dX9_number_65 : decode cX9_number 65 = .ok (.aload_n 0, 1) := by decide +kernel
theorem dX9_number_66 : decode cX9_number 66 = .ok (.getfield 95, 3) := by decide +kernel
theorem dX9_number_69 : decode cX9_number 69 = .ok (.iload_n 2, 1) := by decide +kernel
theorem dX9_number_70 : decode cX9_number 70 = .ok (.baload, 1) := by decide +kernel
theorem dX9_number_71 : decode cX9_number 71 = .ok (.ifCond .ne 18, 3) := by decide +kernel
theorem dX9_number_74 : decode cX9_number 74 = .ok (.aload_n 0, 1) := by decide +kernel
theorem dX9_number_75 : decode cX9_number 75 = .ok (.getfield 101, 3) := by decide +kernel
theorem dX9_number_78 : decode cX9_number 78 = .ok (.aload_n 0, 1) := by decide +kernel
theorem dX9_number_79 : decode cX9_number 79 = .ok (.getfield 98, 3) := by decide +kernel
theorem dX9_number_82 : decode cX9_number 82 = .ok (.iload_n 2, 1) := by decide +kernel
theorem dX9_number_83 : decode cX9_number 83 = .ok (.iaload, 1) := by decide +kernel
theorem dX9_number_84 : decode cX9_number 84 = .ok (.iaload, 1) := by decide +kernel
theorem dX9_number_85 : decode cX9_number 85 = .ok (.iload_n 1, 1) := by decide +kernel
theorem dX9_number_86 : decode cX9_number 86 = .ok (.if_icmp .eq 9, 3) := by decide +kernel
theorem dX9_number_89 : decode cX9_number 89 = .ok (.iinc 2 1, 3) := by decide +kernel
theorem dX9_number_92 : decode cX9_number 92 = .ok (.goto (-27), 3) := by decide +kernel
theorem dX9_number_95 : decode cX9_number 95 = .ok (.iconst 0, 1) := by decide +kernel
theorem dX9_number_96 : decode cX9_number 96 = .ok (.istore_n 3, 1) := by decide +kernel
theorem dX9_number_97 : decode cX9_number 97 = .ok (.iload_n 3, 1) := by decide +kernel
theorem dX9_number_98 : decode cX9_number 98 = .ok (.bipush 8, 2) := by decide +kernel
theorem dX9_number_100 : decode cX9_number 100 = .ok (.if_icmp .ge 80, 3) := by decide +kernel
theorem dX9_number_103 : decode cX9_number 103 = .ok (.aload_n 0, 1) := by decide +kernel
theorem dX9_number_104 : decode cX9_number 104 = .ok (.iload_n 2, 1) := by decide +kernel
theorem dX9_number_105 : decode cX9_number 105 = .ok (.iload_n 3, 1) := by decide +kernel
theorem dX9_number_106 : decode cX9_number 106 = .ok (.invokevirtual 256, 3) := by decide +kernel
theorem dX9_number_109 : decode cX9_number 109 = .ok (.istore 4, 2) := by decide +kernel
theorem dX9_number_111 : decode cX9_number 111 = .ok (.iload 4, 2) := by decide +kernel
theorem dX9_number_113 : decode cX9_number 113 = .ok (.ifCond .lt 34, 3) := by decide +kernel
theorem dX9_number_116 : decode cX9_number 116 = .ok (.aload_n 0, 1) := by decide +kernel
theorem dX9_number_117 : decode cX9_number 117 = .ok (.getfield 101, 3) := by decide +kernel
theorem dX9_number_120 : decode cX9_number 120 = .ok (.iload 4, 2) := by decide +kernel
theorem dX9_number_122 : decode cX9_number 122 = .ok (.iaload, 1) := by decide +kernel
theorem dX9_number_123 : decode cX9_number 123 = .ok (.ifCond .ge 24, 3) := by decide +kernel
theorem dX9_number_126 : decode cX9_number 126 = .ok (.aload_n 0, 1) := by decide +kernel
theorem dX9_number_127 : decode cX9_number 127 = .ok (.getfield 101, 3) := by decide +kernel
theorem dX9_number_130 : decode cX9_number 130 = .ok (.iload 4, 2) := by decide +kernel
theorem dX9_number_132 : decode cX9_number 132 = .ok (.aload_n 0, 1) := by decide +kernel
theorem dX9_number_133 : decode cX9_number 133 = .ok (.getfield 104, 3) := by decide +kernel
theorem dX9_number_136 : decode cX9_number 136 = .ok (.iastore, 1) := by decide +kernel
theorem dX9_number_137 : decode cX9_number 137 = .ok (.aload_n 0, 1) := by decide +kernel
theorem dX9_number_138 : decode cX9_number 138 = .ok (.dup, 1) := by decide +kernel
theorem dX9_number_139 : decode cX9_number 139 = .ok (.getfield 104, 3) := by decide +kernel
theorem dX9_number_142 : decode cX9_number 142 = .ok (.iconst 1, 1) := by decide +kernel
theorem dX9_number_143 : decode cX9_number 143 = .ok (.iadd, 1) := by decide +kernel
theorem dX9_number_144 : decode cX9_number 144 = .ok (.putfield 104, 3) := by decide +kernel
theorem dX9_number_147 : decode cX9_number 147 = .ok (.aload_n 0, 1) := by decide +kernel
theorem dX9_number_148 : decode cX9_number 148 = .ok (.getfield 107, 3) := by decide +kernel
theorem dX9_number_151 : decode cX9_number 151 = .ok (.bipush 8, 2) := by decide +kernel
theorem dX9_number_153 : decode cX9_number 153 = .ok (.iload_n 1, 1) := by decide +kernel
theorem dX9_number_154 : decode cX9_number 154 = .ok (.imul, 1) := by decide +kernel
theorem dX9_number_155 : decode cX9_number 155 = .ok (.iload_n 3, 1) := by decide +kernel
theorem dX9_number_156 : decode cX9_number 156 = .ok (.iadd, 1) := by decide +kernel
theorem dX9_number_157 : decode cX9_number 157 = .ok (.iload 4, 2) := by decide +kernel
theorem dX9_number_159 : decode cX9_number 159 = .ok (.ifCond .ge 7, 3) := by decide +kernel
theorem dX9_number_162 : decode cX9_number 162 = .ok (.iconst (-1), 1) := by decide +kernel
theorem dX9_number_163 : decode cX9_number 163 = .ok (.goto 10, 3) := by decide +kernel
theorem dX9_number_166 : decode cX9_number 166 = .ok (.aload_n 0, 1) := by decide +kernel
theorem dX9_number_167 : decode cX9_number 167 = .ok (.getfield 101, 3) := by decide +kernel
theorem dX9_number_170 : decode cX9_number 170 = .ok (.iload 4, 2) := by decide +kernel
theorem dX9_number_172 : decode cX9_number 172 = .ok (.iaload, 1) := by decide +kernel
theorem dX9_number_173 : decode cX9_number 173 = .ok (.iastore, 1) := by decide +kernel
theorem dX9_number_174 : decode cX9_number 174 = .ok (.iinc 3 1, 3) := by decide +kernel
theorem dX9_number_177 : decode cX9_number 177 = .ok (.goto (-80), 3) := by decide +kernel
theorem dX9_number_180 : decode cX9_number 180 = .ok (.iinc 1 1, 3) := by decide +kernel
theorem dX9_number_183 : decode cX9_number 183 = .ok (.goto (-128), 3) := by decide +kernel
theorem dX9_number_186 : decode cX9_number 186 = .ok (.return_, 1) := by decide +kernel
theorem dX9_codeAfter_0 : decode cX9_codeAfter 0 = .ok (.iload_n 1, 1) := by decide +kernel
theorem dX9_codeAfter_1 : decode cX9_codeAfter 1 = .ok (.aload_n 0, 1) := by decide +kernel
theorem dX9_codeAfter_2 : decode cX9_codeAfter 2 = .ok (.getfield 104, 3) := by decide +kernel
theorem dX9_codeAfter_5 : decode cX9_codeAfter 5 = .ok (.if_icmp .lt 8, 3) := by decide +kernel
theorem dX9_codeAfter_8 : decode cX9_codeAfter 8 = .ok (.aload_n 0, 1) := by decide +kernel
theorem dX9_codeAfter_9 : decode cX9_codeAfter 9 = .ok (.getfield 104, 3) := by decide +kernel
theorem dX9_codeAfter_12 : decode cX9_codeAfter 12 = .ok (.ireturn, 1) := by decide +kernel
theorem dX9_codeAfter_13 : decode cX9_codeAfter 13 = .ok (.aload_n 0, 1) := by decide +kernel
theorem dX9_codeAfter_14 : decode cX9_codeAfter 14 = .ok (.getfield 107, 3) := by decide +kernel
theorem dX9_codeAfter_17 : decode cX9_codeAfter 17 = .ok (.bipush 8, 2) := by decide +kernel
theorem dX9_codeAfter_19 : decode cX9_codeAfter 19 = .ok (.iload_n 1, 1) := by decide +kernel
theorem dX9_codeAfter_20 : decode cX9_codeAfter 20 = .ok (.imul, 1) := by decide +kernel
theorem dX9_codeAfter_21 : decode cX9_codeAfter 21 = .ok (.iload_n 2, 1) := by decide +kernel
theorem dX9_codeAfter_22 : decode cX9_codeAfter 22 = .ok (.iadd, 1) := by decide +kernel
theorem dX9_codeAfter_23 : decode cX9_codeAfter 23 = .ok (.iaload, 1) := by decide +kernel
theorem dX9_codeAfter_24 : decode cX9_codeAfter 24 = .ok (.istore_n 3, 1) := by decide +kernel
theorem dX9_codeAfter_25 : decode cX9_codeAfter 25 = .ok (.iload_n 3, 1) := by decide +kernel
theorem dX9_codeAfter_26 : decode cX9_codeAfter 26 = .ok (.ifCond .ge 10, 3) := by decide +kernel
theorem dX9_codeAfter_29 : decode cX9_codeAfter 29 = .ok (.aload_n 0, 1) := by decide +kernel
theorem dX9_codeAfter_30 : decode cX9_codeAfter 30 = .ok (.getfield 104, 3) := by decide +kernel
theorem dX9_codeAfter_33 : decode cX9_codeAfter 33 = .ok (.goto 4, 3) := by decide +kernel
theorem dX9_codeAfter_36 : decode cX9_codeAfter 36 = .ok (.iload_n 3, 1) := by decide +kernel
theorem dX9_codeAfter_37 : decode cX9_codeAfter 37 = .ok (.ireturn, 1) := by decide +kernel
theorem dX9_wayOf_0 : decode cX9_wayOf 0 = .ok (.iload_n 2, 1) := by decide +kernel
theorem dX9_wayOf_1 : decode cX9_wayOf 1 = .ok (.aload_n 0, 1) := by decide +kernel
theorem dX9_wayOf_2 : decode cX9_wayOf 2 = .ok (.getfield 259, 3) := by decide +kernel
theorem dX9_wayOf_5 : decode cX9_wayOf 5 = .ok (.ishr, 1) := by decide +kernel
theorem dX9_wayOf_6 : decode cX9_wayOf 6 = .ok (.istore_n 3, 1) := by decide +kernel
theorem dX9_wayOf_7 : decode cX9_wayOf 7 = .ok (.iload_n 3, 1) := by decide +kernel
theorem dX9_wayOf_8 : decode cX9_wayOf 8 = .ok (.iconst 2, 1) := by decide +kernel
theorem dX9_wayOf_9 : decode cX9_wayOf 9 = .ok (.ishr, 1) := by decide +kernel
theorem dX9_wayOf_10 : decode cX9_wayOf 10 = .ok (.iconst 1, 1) := by decide +kernel
theorem dX9_wayOf_11 : decode cX9_wayOf 11 = .ok (.iand, 1) := by decide +kernel
theorem dX9_wayOf_12 : decode cX9_wayOf 12 = .ok (.iload_n 3, 1) := by decide +kernel
theorem dX9_wayOf_13 : decode cX9_wayOf 13 = .ok (.iconst 2, 1) := by decide +kernel
theorem dX9_wayOf_14 : decode cX9_wayOf 14 = .ok (.iand, 1) := by decide +kernel
theorem dX9_wayOf_15 : decode cX9_wayOf 15 = .ok (.iadd, 1) := by decide +kernel
theorem dX9_wayOf_16 : decode cX9_wayOf 16 = .ok (.iload_n 3, 1) := by decide +kernel
theorem dX9_wayOf_17 : decode cX9_wayOf 17 = .ok (.iconst 1, 1) := by decide +kernel
theorem dX9_wayOf_18 : decode cX9_wayOf 18 = .ok (.iand, 1) := by decide +kernel
theorem dX9_wayOf_19 : decode cX9_wayOf 19 = .ok (.iconst 2, 1) := by decide +kernel
theorem dX9_wayOf_20 : decode cX9_wayOf 20 = .ok (.ishl, 1) := by decide +kernel
theorem dX9_wayOf_21 : decode cX9_wayOf 21 = .ok (.iadd, 1) := by decide +kernel
theorem dX9_wayOf_22 : decode cX9_wayOf 22 = .ok (.istore 4, 2) := by decide +kernel
theorem dX9_wayOf_24 : decode cX9_wayOf 24 = .ok (.aload_n 0, 1) := by decide +kernel
theorem dX9_wayOf_25 : decode cX9_wayOf 25 = .ok (.iload_n 2, 1) := by decide +kernel
theorem dX9_wayOf_26 : decode cX9_wayOf 26 = .ok (.iconst 1, 1) := by decide +kernel
theorem dX9_wayOf_27 : decode cX9_wayOf 27 = .ok (.aload_n 0, 1) := by decide +kernel
theorem dX9_wayOf_28 : decode cX9_wayOf 28 = .ok (.getfield 259, 3) := by decide +kernel
theorem dX9_wayOf_31 : decode cX9_wayOf 31 = .ok (.ishl, 1) := by decide +kernel
theorem dX9_wayOf_32 : decode cX9_wayOf 32 = .ok (.iconst 1, 1) := by decide +kernel
theorem dX9_wayOf_33 : decode cX9_wayOf 33 = .ok (.isub, 1) := by decide +kernel
theorem dX9_wayOf_34 : decode cX9_wayOf 34 = .ok (.iand, 1) := by decide +kernel
theorem dX9_wayOf_35 : decode cX9_wayOf 35 = .ok (.iload 4, 2) := by decide +kernel
theorem dX9_wayOf_37 : decode cX9_wayOf 37 = .ok (.invokevirtual 262, 3) := by decide +kernel
theorem dX9_wayOf_40 : decode cX9_wayOf 40 = .ok (.istore 5, 2) := by decide +kernel
theorem dX9_wayOf_42 : decode cX9_wayOf 42 = .ok (.iload_n 1, 1) := by decide +kernel
theorem dX9_wayOf_43 : decode cX9_wayOf 43 = .ok (.aload_n 0, 1) := by decide +kernel
theorem dX9_wayOf_44 : decode cX9_wayOf 44 = .ok (.getfield 259, 3) := by decide +kernel
theorem dX9_wayOf_47 : decode cX9_wayOf 47 = .ok (.if_icmp .ne 20, 3) := by decide +kernel
theorem dX9_wayOf_50 : decode cX9_wayOf 50 = .ok (.iload 5, 2) := by decide +kernel
theorem dX9_wayOf_52 : decode cX9_wayOf 52 = .ok (.aload_n 0, 1) := by decide +kernel
theorem dX9_wayOf_53 : decode cX9_wayOf 53 = .ok (.getfield 104, 3) := by decide +kernel
theorem dX9_wayOf_56 : decode cX9_wayOf 56 = .ok (.if_icmp .ne 7, 3) := by decide +kernel
theorem dX9_wayOf_59 : decode cX9_wayOf 59 = .ok (.iconst 1, 1) := by decide +kernel
theorem dX9_wayOf_60 : decode cX9_wayOf 60 = .ok (.goto 13, 3) := by decide +kernel
theorem dX9_wayOf_63 : decode cX9_wayOf 63 = .ok (.iconst 0, 1) := by decide +kernel
theorem dX9_wayOf_64 : decode cX9_wayOf 64 = .ok (.goto 9, 3) := by decide +kernel
theorem dX9_wayOf_67 : decode cX9_wayOf 67 = .ok (.iload 5, 2) := by decide +kernel
theorem dX9_wayOf_69 : decode cX9_wayOf 69 = .ok (.iload_n 1, 1) := by decide +kernel
theorem dX9_wayOf_70 : decode cX9_wayOf 70 = .ok (.ishr, 1) := by decide +kernel
theorem dX9_wayOf_71 : decode cX9_wayOf 71 = .ok (.iconst 1, 1) := by decide +kernel
theorem dX9_wayOf_72 : decode cX9_wayOf 72 = .ok (.iand, 1) := by decide +kernel
theorem dX9_wayOf_73 : decode cX9_wayOf 73 = .ok (.ireturn, 1) := by decide +kernel
theorem dX9_count_0 : decode cX9_count 0 = .ok (.aload_n 0, 1) := by decide +kernel
theorem dX9_count_1 : decode cX9_count 1 = .ok (.iconst 1, 1) := by decide +kernel
theorem dX9_count_2 : decode cX9_count 2 = .ok (.putfield 259, 3) := by decide +kernel
theorem dX9_count_5 : decode cX9_count 5 = .ok (.iconst 1, 1) := by decide +kernel
theorem dX9_count_6 : decode cX9_count 6 = .ok (.aload_n 0, 1) := by decide +kernel
theorem dX9_count_7 : decode cX9_count 7 = .ok (.getfield 259, 3) := by decide +kernel
theorem dX9_count_10 : decode cX9_count 10 = .ok (.ishl, 1) := by decide +kernel
theorem dX9_count_11 : decode cX9_count 11 = .ok (.aload_n 0, 1) := by decide +kernel
theorem dX9_count_12 : decode cX9_count 12 = .ok (.getfield 104, 3) := by decide +kernel
theorem dX9_count_15 : decode cX9_count 15 = .ok (.if_icmp .gt 16, 3) := by decide +kernel
theorem dX9_count_18 : decode cX9_count 18 = .ok (.aload_n 0, 1) := by decide +kernel
theorem dX9_count_19 : decode cX9_count 19 = .ok (.dup, 1) := by decide +kernel
theorem dX9_count_20 : decode cX9_count 20 = .ok (.getfield 259, 3) := by decide +kernel
theorem dX9_count_23 : decode cX9_count 23 = .ok (.iconst 1, 1) := by decide +kernel
theorem dX9_count_24 : decode cX9_count 24 = .ok (.iadd, 1) := by decide +kernel
theorem dX9_count_25 : decode cX9_count 25 = .ok (.putfield 259, 3) := by decide +kernel
theorem dX9_count_28 : decode cX9_count 28 = .ok (.goto (-23), 3) := by decide +kernel
theorem dX9_count_31 : decode cX9_count 31 = .ok (.aload_n 0, 1) := by decide +kernel
theorem dX9_count_32 : decode cX9_count 32 = .ok (.getfield 259, 3) := by decide +kernel
theorem dX9_count_35 : decode cX9_count 35 = .ok (.iconst 3, 1) := by decide +kernel
theorem dX9_count_36 : decode cX9_count 36 = .ok (.iadd, 1) := by decide +kernel
theorem dX9_count_37 : decode cX9_count 37 = .ok (.istore_n 1, 1) := by decide +kernel
theorem dX9_count_38 : decode cX9_count 38 = .ok (.iconst 0, 1) := by decide +kernel
theorem dX9_count_39 : decode cX9_count 39 = .ok (.istore_n 2, 1) := by decide +kernel
theorem dX9_count_40 : decode cX9_count 40 = .ok (.iload_n 2, 1) := by decide +kernel
theorem dX9_count_41 : decode cX9_count 41 = .ok (.aload_n 0, 1) := by decide +kernel
theorem dX9_count_42 : decode cX9_count 42 = .ok (.getfield 259, 3) := by decide +kernel
theorem dX9_count_45 : decode cX9_count 45 = .ok (.if_icmp .gt 42, 3) := by decide +kernel
theorem dX9_count_48 : decode cX9_count 48 = .ok (.iconst 0, 1) := by decide +kernel
theorem dX9_count_49 : decode cX9_count 49 = .ok (.istore_n 3, 1) := by decide +kernel
theorem dX9_count_50 : decode cX9_count 50 = .ok (.iload_n 3, 1) := by decide +kernel
theorem dX9_count_51 : decode cX9_count 51 = .ok (.iconst 1, 1) := by decide +kernel
theorem dX9_count_52 : decode cX9_count 52 = .ok (.iload_n 1, 1) := by decide +kernel
theorem dX9_count_53 : decode cX9_count 53 = .ok (.ishl, 1) := by decide +kernel
theorem dX9_count_54 : decode cX9_count 54 = .ok (.if_icmp .ge 27, 3) := by decide +kernel
theorem dX9_count_57 : decode cX9_count 57 = .ok (.aload_n 0, 1) := by decide +kernel
theorem dX9_count_58 : decode cX9_count 58 = .ok (.getfield 110, 3) := by decide +kernel
theorem dX9_count_61 : decode cX9_count 61 = .ok (.sipush 512, 3) := by decide +kernel
theorem dX9_count_64 : decode cX9_count 64 = .ok (.iload_n 2, 1) := by decide +kernel
theorem dX9_count_65 : decode cX9_count 65 = .ok (.imul, 1) := by decide +kernel
theorem dX9_count_66 : decode cX9_count 66 = .ok (.iload_n 3, 1) := by decide +kernel
theorem dX9_count_67 : decode cX9_count 67 = .ok (.iadd, 1) := by decide +kernel
theorem dX9_count_68 : decode cX9_count 68 = .ok (.aload_n 0, 1) := by decide +kernel
theorem dX9_count_69 : decode cX9_count 69 = .ok (.iload_n 2, 1) := by decide +kernel
theorem dX9_count_70 : decode cX9_count 70 = .ok (.iload_n 3, 1) := by decide +kernel
theorem dX9_count_71 : decode cX9_count 71 = .ok (.invokevirtual 265, 3) := by decide +kernel
theorem dX9_count_74 : decode cX9_count 74 = .ok (.iastore, 1) := by decide +kernel
theorem dX9_count_75 : decode cX9_count 75 = .ok (.iinc 3 1, 3) := by decide +kernel
theorem dX9_count_78 : decode cX9_count 78 = .ok (.goto (-28), 3) := by decide +kernel
theorem dX9_count_81 : decode cX9_count 81 = .ok (.iinc 2 1, 3) := by decide +kernel
theorem dX9_count_84 : decode cX9_count 84 = .ok (.goto (-44), 3) := by decide +kernel
theorem dX9_count_87 : decode cX9_count 87 = .ok (.aload_n 0, 1) := by decide +kernel
theorem dX9_count_88 : decode cX9_count 88 = .ok (.iconst 0, 1) := by decide +kernel
theorem dX9_count_89 : decode cX9_count 89 = .ok (.putfield 268, 3) := by decide +kernel
theorem dX9_count_92 : decode cX9_count 92 = .ok (.iload_n 1, 1) := by decide +kernel
theorem dX9_count_93 : decode cX9_count 93 = .ok (.iconst 1, 1) := by decide +kernel
theorem dX9_count_94 : decode cX9_count 94 = .ok (.isub, 1) := by decide +kernel
theorem dX9_count_95 : decode cX9_count 95 = .ok (.istore_n 2, 1) := by decide +kernel
theorem dX9_count_96 : decode cX9_count 96 = .ok (.iload_n 2, 1) := by decide +kernel
theorem dX9_count_97 : decode cX9_count 97 = .ok (.ifCond .lt 102, 3) := by decide +kernel
theorem dX9_count_100 : decode cX9_count 100 = .ok (.aload_n 0, 1) := by decide +kernel
theorem dX9_count_101 : decode cX9_count 101 = .ok (.getfield 268, 3) := by decide +kernel
theorem dX9_count_104 : decode cX9_count 104 = .ok (.istore_n 3, 1) := by decide +kernel
theorem dX9_count_105 : decode cX9_count 105 = .ok (.iconst 0, 1) := by decide +kernel
theorem dX9_count_106 : decode cX9_count 106 = .ok (.istore 4, 2) := by decide +kernel
theorem dX9_count_108 : decode cX9_count 108 = .ok (.iload 4, 2) := by decide +kernel
theorem dX9_count_110 : decode cX9_count 110 = .ok (.aload_n 0, 1) := by decide +kernel
theorem dX9_count_111 : decode cX9_count 111 = .ok (.getfield 259, 3) := by decide +kernel
theorem dX9_count_114 : decode cX9_count 114 = .ok (.if_icmp .gt 79, 3) := by decide +kernel
theorem dX9_count_117 : decode cX9_count 117 = .ok (.iconst 0, 1) := by decide +kernel
theorem dX9_count_118 : decode cX9_count 118 = .ok (.istore 5, 2) := by decide +kernel
theorem dX9_count_120 : decode cX9_count 120 = .ok (.iload 5, 2) := by decide +kernel
theorem dX9_count_122 : decode cX9_count 122 = .ok (.iconst 1, 1) := by decide +kernel
theorem dX9_count_123 : decode cX9_count 123 = .ok (.iload_n 2, 1) := by decide +kernel
theorem dX9_count_124 : decode cX9_count 124 = .ok (.ishl, 1) := by decide +kernel
theorem dX9_count_125 : decode cX9_count 125 = .ok (.if_icmp .ge 62, 3) := by decide +kernel
theorem dX9_count_128 : decode cX9_count 128 = .ok (.aload_n 0, 1) := by decide +kernel
theorem dX9_count_129 : decode cX9_count 129 = .ok (.getfield 110, 3) := by decide +kernel
theorem dX9_count_132 : decode cX9_count 132 = .ok (.sipush 512, 3) := by decide +kernel
theorem dX9_count_135 : decode cX9_count 135 = .ok (.iload 4, 2) := by decide +kernel
theorem dX9_count_137 : decode cX9_count 137 = .ok (.imul, 1) := by decide +kernel
theorem dX9_count_138 : decode cX9_count 138 = .ok (.iload 5, 2) := by decide +kernel
theorem dX9_count_140 : decode cX9_count 140 = .ok (.iadd, 1) := by decide +kernel
theorem dX9_count_141 : decode cX9_count 141 = .ok (.aload_n 0, 1) := by decide +kernel
theorem dX9_count_142 : decode cX9_count 142 = .ok (.aload_n 0, 1) := by decide +kernel
theorem dX9_count_143 : decode cX9_count 143 = .ok (.getfield 110, 3) := by decide +kernel
theorem dX9_count_146 : decode cX9_count 146 = .ok (.sipush 512, 3) := by decide +kernel
theorem dX9_count_149 : decode cX9_count 149 = .ok (.iload 4, 2) := by decide +kernel
theorem dX9_count_151 : decode cX9_count 151 = .ok (.imul, 1) := by decide +kernel
theorem dX9_count_152 : decode cX9_count 152 = .ok (.iconst 2, 1) := by decide +kernel
theorem dX9_count_153 : decode cX9_count 153 = .ok (.iload 5, 2) := by decide +kernel
theorem dX9_count_155 : decode cX9_count 155 = .ok (.imul, 1) := by decide +kernel
theorem dX9_count_156 : decode cX9_count 156 = .ok (.iadd, 1) := by decide +kernel
theorem dX9_count_157 : decode cX9_count 157 = .ok (.iaload, 1) := by decide +kernel
theorem dX9_count_158 : decode cX9_count 158 = .ok (.aload_n 0, 1) := by decide +kernel
theorem dX9_count_159 : decode cX9_count 159 = .ok (.getfield 110, 3) := by decide +kernel
theorem dX9_count_162 : decode cX9_count 162 = .ok (.sipush 512, 3) := by decide +kernel
theorem dX9_count_165 : decode cX9_count 165 = .ok (.iload 4, 2) := by decide +kernel
theorem dX9_count_167 : decode cX9_count 167 = .ok (.imul, 1) := by decide +kernel
theorem dX9_count_168 : decode cX9_count 168 = .ok (.iconst 2, 1) := by decide +kernel
theorem dX9_count_169 : decode cX9_count 169 = .ok (.iload 5, 2) := by decide +kernel
theorem dX9_count_171 : decode cX9_count 171 = .ok (.imul, 1) := by decide +kernel
theorem dX9_count_172 : decode cX9_count 172 = .ok (.iadd, 1) := by decide +kernel
theorem dX9_count_173 : decode cX9_count 173 = .ok (.iconst 1, 1) := by decide +kernel
theorem dX9_count_174 : decode cX9_count 174 = .ok (.iadd, 1) := by decide +kernel
theorem dX9_count_175 : decode cX9_count 175 = .ok (.iaload, 1) := by decide +kernel
theorem dX9_count_176 : decode cX9_count 176 = .ok (.iload_n 3, 1) := by decide +kernel
theorem dX9_count_177 : decode cX9_count 177 = .ok (.invokevirtual 271, 3) := by decide +kernel
theorem dX9_count_180 : decode cX9_count 180 = .ok (.iastore, 1) := by decide +kernel
theorem dX9_count_181 : decode cX9_count 181 = .ok (.iinc 5 1, 3) := by decide +kernel
theorem dX9_count_184 : decode cX9_count 184 = .ok (.goto (-64), 3) := by decide +kernel
theorem dX9_count_187 : decode cX9_count 187 = .ok (.iinc 4 1, 3) := by decide +kernel
theorem dX9_count_190 : decode cX9_count 190 = .ok (.goto (-82), 3) := by decide +kernel
theorem dX9_count_193 : decode cX9_count 193 = .ok (.iinc 2 (-1), 3) := by decide +kernel
theorem dX9_count_196 : decode cX9_count 196 = .ok (.goto (-100), 3) := by decide +kernel
theorem dX9_count_199 : decode cX9_count 199 = .ok (.return_, 1) := by decide +kernel
theorem dX9_pair_0 : decode cX9_pair 0 = .ok (.iload_n 1, 1) := by decide +kernel
theorem dX9_pair_1 : decode cX9_pair 1 = .ok (.iload_n 2, 1) := by decide +kernel
theorem dX9_pair_2 : decode cX9_pair 2 = .ok (.if_icmp .ne 5, 3) := by decide +kernel
theorem dX9_pair_5 : decode cX9_pair 5 = .ok (.iload_n 1, 1) := by decide +kernel
theorem dX9_pair_6 : decode cX9_pair 6 = .ok (.ireturn, 1) := by decide +kernel
theorem dX9_pair_7 : decode cX9_pair 7 = .ok (.iload_n 3, 1) := by decide +kernel
theorem dX9_pair_8 : decode cX9_pair 8 = .ok (.istore 4, 2) := by decide +kernel
theorem dX9_pair_10 : decode cX9_pair 10 = .ok (.iload 4, 2) := by decide +kernel
theorem dX9_pair_12 : decode cX9_pair 12 = .ok (.aload_n 0, 1) := by decide +kernel
theorem dX9_pair_13 : decode cX9_pair 13 = .ok (.getfield 268, 3) := by decide +kernel
theorem dX9_pair_16 : decode cX9_pair 16 = .ok (.if_icmp .ge 36, 3) := by decide +kernel
theorem dX9_pair_19 : decode cX9_pair 19 = .ok (.aload_n 0, 1) := by decide +kernel
theorem dX9_pair_20 : decode cX9_pair 20 = .ok (.getfield 113, 3) := by decide +kernel
theorem dX9_pair_23 : decode cX9_pair 23 = .ok (.iload 4, 2) := by decide +kernel
theorem dX9_pair_25 : decode cX9_pair 25 = .ok (.iaload, 1) := by decide +kernel
theorem dX9_pair_26 : decode cX9_pair 26 = .ok (.iload_n 1, 1) := by decide +kernel
theorem dX9_pair_27 : decode cX9_pair 27 = .ok (.if_icmp .ne 19, 3) := by decide +kernel
theorem dX9_pair_30 : decode cX9_pair 30 = .ok (.aload_n 0, 1) := by decide +kernel
theorem dX9_pair_31 : decode cX9_pair 31 = .ok (.getfield 116, 3) := by decide +kernel
theorem dX9_pair_34 : decode cX9_pair 34 = .ok (.iload 4, 2) := by decide +kernel
theorem dX9_pair_36 : decode cX9_pair 36 = .ok (.iaload, 1) := by decide +kernel
theorem dX9_pair_37 : decode cX9_pair 37 = .ok (.iload_n 2, 1) := by decide +kernel
theorem dX9_pair_38 : decode cX9_pair 38 = .ok (.if_icmp .ne 8, 3) := by decide +kernel
theorem dX9_pair_41 : decode cX9_pair 41 = .ok (.iconst 2, 1) := by decide +kernel
theorem dX9_pair_42 : decode cX9_pair 42 = .ok (.iload 4, 2) := by decide +kernel
theorem dX9_pair_44 : decode cX9_pair 44 = .ok (.iadd, 1) := by decide +kernel
theorem dX9_pair_45 : decode cX9_pair 45 = .ok (.ireturn, 1) := by decide +kernel
theorem dX9_pair_46 : decode cX9_pair 46 = .ok (.iinc 4 1, 3) := by decide +kernel
theorem dX9_pair_49 : decode cX9_pair 49 = .ok (.goto (-39), 3) := by decide +kernel
theorem dX9_pair_52 : decode cX9_pair 52 = .ok (.aload_n 0, 1) := by decide +kernel
theorem dX9_pair_53 : decode cX9_pair 53 = .ok (.getfield 113, 3) := by decide +kernel
theorem dX9_pair_56 : decode cX9_pair 56 = .ok (.aload_n 0, 1) := by decide +kernel
theorem dX9_pair_57 : decode cX9_pair 57 = .ok (.getfield 268, 3) := by decide +kernel
theorem dX9_pair_60 : decode cX9_pair 60 = .ok (.iload_n 1, 1) := by decide +kernel
theorem dX9_pair_61 : decode cX9_pair 61 = .ok (.iastore, 1) := by decide +kernel
theorem dX9_pair_62 : decode cX9_pair 62 = .ok (.aload_n 0, 1) := by decide +kernel
theorem dX9_pair_63 : decode cX9_pair 63 = .ok (.getfield 116, 3) := by decide +kernel
theorem dX9_pair_66 : decode cX9_pair 66 = .ok (.aload_n 0, 1) := by decide +kernel
theorem dX9_pair_67 : decode cX9_pair 67 = .ok (.getfield 268, 3) := by decide +kernel
theorem dX9_pair_70 : decode cX9_pair 70 = .ok (.iload_n 2, 1) := by decide +kernel
theorem dX9_pair_71 : decode cX9_pair 71 = .ok (.iastore, 1) := by decide +kernel
theorem dX9_pair_72 : decode cX9_pair 72 = .ok (.aload_n 0, 1) := by decide +kernel
theorem dX9_pair_73 : decode cX9_pair 73 = .ok (.dup, 1) := by decide +kernel
theorem dX9_pair_74 : decode cX9_pair 74 = .ok (.getfield 268, 3) := by decide +kernel
theorem dX9_pair_77 : decode cX9_pair 77 = .ok (.iconst 1, 1) := by decide +kernel
theorem dX9_pair_78 : decode cX9_pair 78 = .ok (.iadd, 1) := by decide +kernel
theorem dX9_pair_79 : decode cX9_pair 79 = .ok (.putfield 268, 3) := by decide +kernel
theorem dX9_pair_82 : decode cX9_pair 82 = .ok (.iconst 1, 1) := by decide +kernel
theorem dX9_pair_83 : decode cX9_pair 83 = .ok (.aload_n 0, 1) := by decide +kernel
theorem dX9_pair_84 : decode cX9_pair 84 = .ok (.getfield 268, 3) := by decide +kernel
theorem dX9_pair_87 : decode cX9_pair 87 = .ok (.iadd, 1) := by decide +kernel
theorem dX9_pair_88 : decode cX9_pair 88 = .ok (.ireturn, 1) := by decide +kernel
theorem dX9_compile_0 : decode cX9_compile 0 = .ok (.aload_n 0, 1) := by decide +kernel
theorem dX9_compile_1 : decode cX9_compile 1 = .ok (.invokevirtual 275, 3) := by decide +kernel
theorem dX9_compile_4 : decode cX9_compile 4 = .ok (.aload_n 0, 1) := by decide +kernel
theorem dX9_compile_5 : decode cX9_compile 5 = .ok (.getfield 145, 3) := by decide +kernel
theorem dX9_compile_8 : decode cX9_compile 8 = .ok (.ifCond .ne 17, 3) := by decide +kernel
theorem dX9_compile_11 : decode cX9_compile 11 = .ok (.aload_n 0, 1) := by decide +kernel
theorem dX9_compile_12 : decode cX9_compile 12 = .ok (.aload_n 0, 1) := by decide +kernel
theorem dX9_compile_13 : decode cX9_compile 13 = .ok (.getfield 136, 3) := by decide +kernel
theorem dX9_compile_16 : decode cX9_compile 16 = .ok (.putfield 13, 3) := by decide +kernel
theorem dX9_compile_19 : decode cX9_compile 19 = .ok (.aload_n 0, 1) := by decide +kernel
theorem dX9_compile_20 : decode cX9_compile 20 = .ok (.iconst 1, 1) := by decide +kernel
theorem dX9_compile_21 : decode cX9_compile 21 = .ok (.invokevirtual 278, 3) := by decide +kernel
theorem dX9_compile_24 : decode cX9_compile 24 = .ok (.ireturn, 1) := by decide +kernel
theorem dX9_compile_25 : decode cX9_compile 25 = .ok (.aload_n 0, 1) := by decide +kernel
theorem dX9_compile_26 : decode cX9_compile 26 = .ok (.invokevirtual 281, 3) := by decide +kernel
theorem dX9_compile_29 : decode cX9_compile 29 = .ok (.aload_n 0, 1) := by decide +kernel
theorem dX9_compile_30 : decode cX9_compile 30 = .ok (.getfield 187, 3) := by decide +kernel
theorem dX9_compile_33 : decode cX9_compile 33 = .ok (.bipush 9, 2) := by decide +kernel
theorem dX9_compile_35 : decode cX9_compile 35 = .ok (.if_icmp .gt 10, 3) := by decide +kernel
theorem dX9_compile_38 : decode cX9_compile 38 = .ok (.aload_n 0, 1) := by decide +kernel
theorem dX9_compile_39 : decode cX9_compile 39 = .ok (.invokevirtual 284, 3) := by decide +kernel
theorem dX9_compile_42 : decode cX9_compile 42 = .ok (.ifCond .ne 9, 3) := by decide +kernel
theorem dX9_compile_45 : decode cX9_compile 45 = .ok (.aload_n 0, 1) := by decide +kernel
theorem dX9_compile_46 : decode cX9_compile 46 = .ok (.iconst 2, 1) := by decide +kernel
theorem dX9_compile_47 : decode cX9_compile 47 = .ok (.invokevirtual 278, 3) := by decide +kernel
theorem dX9_compile_50 : decode cX9_compile 50 = .ok (.ireturn, 1) := by decide +kernel
theorem dX9_compile_51 : decode cX9_compile 51 = .ok (.aload_n 0, 1) := by decide +kernel
theorem dX9_compile_52 : decode cX9_compile 52 = .ok (.iconst 0, 1) := by decide +kernel
theorem dX9_compile_53 : decode cX9_compile 53 = .ok (.putfield 128, 3) := by decide +kernel
theorem dX9_compile_56 : decode cX9_compile 56 = .ok (.aload_n 0, 1) := by decide +kernel
theorem dX9_compile_57 : decode cX9_compile 57 = .ok (.invokevirtual 288, 3) := by decide +kernel
theorem dX9_compile_60 : decode cX9_compile 60 = .ok (.aload_n 0, 1) := by decide +kernel
theorem dX9_compile_61 : decode cX9_compile 61 = .ok (.invokevirtual 291, 3) := by decide +kernel
theorem dX9_compile_64 : decode cX9_compile 64 = .ok (.aload_n 0, 1) := by decide +kernel
theorem dX9_compile_65 : decode cX9_compile 65 = .ok (.invokevirtual 294, 3) := by decide +kernel
theorem dX9_compile_68 : decode cX9_compile 68 = .ok (.aload_n 0, 1) := by decide +kernel
theorem dX9_compile_69 : decode cX9_compile 69 = .ok (.invokevirtual 297, 3) := by decide +kernel
theorem dX9_compile_72 : decode cX9_compile 72 = .ok (.aload_n 0, 1) := by decide +kernel
theorem dX9_compile_73 : decode cX9_compile 73 = .ok (.aload_n 0, 1) := by decide +kernel
theorem dX9_compile_74 : decode cX9_compile 74 = .ok (.getfield 187, 3) := by decide +kernel
theorem dX9_compile_77 : decode cX9_compile 77 = .ok (.putfield 300, 3) := by decide +kernel
theorem dX9_compile_80 : decode cX9_compile 80 = .ok (.aload_n 0, 1) := by decide +kernel
theorem dX9_compile_81 : decode cX9_compile 81 = .ok (.aload_n 0, 1) := by decide +kernel
theorem dX9_compile_82 : decode cX9_compile 82 = .ok (.getfield 240, 3) := by decide +kernel
theorem dX9_compile_85 : decode cX9_compile 85 = .ok (.putfield 303, 3) := by decide +kernel
theorem dX9_compile_88 : decode cX9_compile 88 = .ok (.aload_n 0, 1) := by decide +kernel
theorem dX9_compile_89 : decode cX9_compile 89 = .ok (.iconst (-1), 1) := by decide +kernel
theorem dX9_compile_90 : decode cX9_compile 90 = .ok (.putfield 119, 3) := by decide +kernel
theorem dX9_compile_93 : decode cX9_compile 93 = .ok (.aload_n 0, 1) := by decide +kernel
theorem dX9_compile_94 : decode cX9_compile 94 = .ok (.getfield 104, 3) := by decide +kernel
theorem dX9_compile_97 : decode cX9_compile 97 = .ok (.ireturn, 1) := by decide +kernel
theorem dX9_size_0 : decode cX9_size 0 = .ok (.aload_n 0, 1) := by decide +kernel
theorem dX9_size_1 : decode cX9_size 1 = .ok (.aload_n 0, 1) := by decide +kernel
theorem dX9_size_2 : decode cX9_size 2 = .ok (.getfield 104, 3) := by decide +kernel
theorem dX9_size_5 : decode cX9_size 5 = .ok (.ifCond .ge 7, 3) := by decide +kernel
theorem dX9_size_8 : decode cX9_size 8 = .ok (.iconst 1, 1) := by decide +kernel
theorem dX9_size_9 : decode cX9_size 9 = .ok (.goto 17, 3) := by decide +kernel
theorem dX9_size_12 : decode cX9_size 12 = .ok (.iload_n 1, 1) := by decide +kernel
theorem dX9_size_13 : decode cX9_size 13 = .ok (.ifCond .lt 8, 3) := by decide +kernel
theorem dX9_size_16 : decode cX9_size 16 = .ok (.iload_n 1, 1) := by decide +kernel
theorem dX9_size_17 : decode cX9_size 17 = .ok (.iconst 4, 1) := by decide +kernel
theorem dX9_size_18 : decode cX9_size 18 = .ok (.if_icmp .le 7, 3) := by decide +kernel
theorem dX9_size_21 : decode cX9_size 21 = .ok (.iconst 2, 1) := by decide +kernel
theorem dX9_size_22 : decode cX9_size 22 = .ok (.goto 4, 3) := by decide +kernel
theorem dX9_size_25 : decode cX9_size 25 = .ok (.iconst 0, 1) := by decide +kernel
theorem dX9_size_26 : decode cX9_size 26 = .ok (.putfield 128, 3) := by decide +kernel
theorem dX9_size_29 : decode cX9_size 29 = .ok (.aload_n 0, 1) := by decide +kernel
theorem dX9_size_30 : decode cX9_size 30 = .ok (.getfield 128, 3) := by decide +kernel
theorem dX9_size_33 : decode cX9_size 33 = .ok (.ifCond .le 5, 3) := by decide +kernel
theorem dX9_size_36 : decode cX9_size 36 = .ok (.iconst 0, 1) := by decide +kernel
theorem dX9_size_37 : decode cX9_size 37 = .ok (.ireturn, 1) := by decide +kernel
theorem dX9_size_38 : decode cX9_size 38 = .ok (.iload_n 1, 1) := by decide +kernel
theorem dX9_size_39 : decode cX9_size 39 = .ok (.ifCond .ne 10, 3) := by decide +kernel
theorem dX9_size_42 : decode cX9_size 42 = .ok (.aload_n 0, 1) := by decide +kernel
theorem dX9_size_43 : decode cX9_size 43 = .ok (.getfield 104, 3) := by decide +kernel
theorem dX9_size_46 : decode cX9_size 46 = .ok (.goto 43, 3) := by decide +kernel
theorem dX9_size_49 : decode cX9_size 49 = .ok (.iload_n 1, 1) := by decide +kernel
theorem dX9_size_50 : decode cX9_size 50 = .ok (.iconst 1, 1) := by decide +kernel
theorem dX9_size_51 : decode cX9_size 51 = .ok (.if_icmp .ne 10, 3) := by decide +kernel
theorem dX9_size_54 : decode cX9_size 54 = .ok (.aload_n 0, 1) := by decide +kernel
theorem dX9_size_55 : decode cX9_size 55 = .ok (.getfield 300, 3) := by decide +kernel
theorem dX9_size_58 : decode cX9_size 58 = .ok (.goto 31, 3) := by decide +kernel
theorem dX9_size_61 : decode cX9_size 61 = .ok (.iload_n 1, 1) := by decide +kernel
theorem dX9_size_62 : decode cX9_size 62 = .ok (.iconst 2, 1) := by decide +kernel
theorem dX9_size_63 : decode cX9_size 63 = .ok (.if_icmp .ne 10, 3) := by decide +kernel
theorem dX9_size_66 : decode cX9_size 66 = .ok (.aload_n 0, 1) := by decide +kernel
theorem dX9_size_67 : decode cX9_size 67 = .ok (.getfield 303, 3) := by decide +kernel
theorem dX9_size_70 : decode cX9_size 70 = .ok (.goto 19, 3) := by decide +kernel
theorem dX9_size_73 : decode cX9_size 73 = .ok (.iload_n 1, 1) := by decide +kernel
theorem dX9_size_74 : decode cX9_size 74 = .ok (.iconst 3, 1) := by decide +kernel
theorem dX9_size_75 : decode cX9_size 75 = .ok (.if_icmp .ne 10, 3) := by decide +kernel
theorem dX9_size_78 : decode cX9_size 78 = .ok (.aload_n 0, 1) := by decide +kernel
theorem dX9_size_79 : decode cX9_size 79 = .ok (.getfield 259, 3) := by decide +kernel
theorem dX9_size_82 : decode cX9_size 82 = .ok (.goto 7, 3) := by decide +kernel
theorem dX9_size_85 : decode cX9_size 85 = .ok (.aload_n 0, 1) := by decide +kernel
theorem dX9_size_86 : decode cX9_size 86 = .ok (.getfield 268, 3) := by decide +kernel
theorem dX9_size_89 : decode cX9_size 89 = .ok (.ireturn, 1) := by decide +kernel
theorem dX9_next_0 : decode cX9_next 0 = .ok (.aload_n 0, 1) := by decide +kernel
theorem dX9_next_1 : decode cX9_next 1 = .ok (.aload_n 0, 1) := by decide +kernel
theorem dX9_next_2 : decode cX9_next 2 = .ok (.getfield 104, 3) := by decide +kernel
theorem dX9_next_5 : decode cX9_next 5 = .ok (.ifCond .ge 7, 3) := by decide +kernel
theorem dX9_next_8 : decode cX9_next 8 = .ok (.iconst 1, 1) := by decide +kernel
theorem dX9_next_9 : decode cX9_next 9 = .ok (.goto 30, 3) := by decide +kernel
theorem dX9_next_12 : decode cX9_next 12 = .ok (.iload_n 1, 1) := by decide +kernel
theorem dX9_next_13 : decode cX9_next 13 = .ok (.ifCond .lt 21, 3) := by decide +kernel
theorem dX9_next_16 : decode cX9_next 16 = .ok (.iload_n 1, 1) := by decide +kernel
theorem dX9_next_17 : decode cX9_next 17 = .ok (.aload_n 0, 1) := by decide +kernel
theorem dX9_next_18 : decode cX9_next 18 = .ok (.getfield 104, 3) := by decide +kernel
theorem dX9_next_21 : decode cX9_next 21 = .ok (.if_icmp .ge 13, 3) := by decide +kernel
theorem dX9_next_24 : decode cX9_next 24 = .ok (.iload_n 2, 1) := by decide +kernel
theorem dX9_next_25 : decode cX9_next 25 = .ok (.ifCond .lt 9, 3) := by decide +kernel
theorem dX9_next_28 : decode cX9_next 28 = .ok (.iload_n 2, 1) := by decide +kernel
theorem dX9_next_29 : decode cX9_next 29 = .ok (.bipush 7, 2) := by decide +kernel
theorem dX9_next_31 : decode cX9_next 31 = .ok (.if_icmp .le 7, 3) := by decide +kernel
theorem dX9_next_34 : decode cX9_next 34 = .ok (.iconst 2, 1) := by decide +kernel
theorem dX9_next_35 : decode cX9_next 35 = .ok (.goto 4, 3) := by decide +kernel
theorem dX9_next_38 : decode cX9_next 38 = .ok (.iconst 0, 1) := by decide +kernel
theorem dX9_next_39 : decode cX9_next 39 = .ok (.putfield 128, 3) := by decide +kernel
theorem dX9_next_42 : decode cX9_next 42 = .ok (.aload_n 0, 1) := by decide +kernel
theorem dX9_next_43 : decode cX9_next 43 = .ok (.getfield 128, 3) := by decide +kernel
theorem dX9_next_46 : decode cX9_next 46 = .ok (.ifCond .le 7, 3) := by decide +kernel
theorem dX9_next_49 : decode cX9_next 49 = .ok (.iconst 0, 1) := by decide +kernel
theorem dX9_next_50 : decode cX9_next 50 = .ok (.goto 14, 3) := by decide +kernel
theorem dX9_next_53 : decode cX9_next 53 = .ok (.aload_n 0, 1) := by decide +kernel
theorem dX9_next_54 : decode cX9_next 54 = .ok (.getfield 107, 3) := by decide +kernel
theorem dX9_next_57 : decode cX9_next 57 = .ok (.bipush 8, 2) := by decide +kernel
theorem dX9_next_59 : decode cX9_next 59 = .ok (.iload_n 1, 1) := by decide +kernel
theorem dX9_next_60 : decode cX9_next 60 = .ok (.imul, 1) := by decide +kernel
theorem dX9_next_61 : decode cX9_next 61 = .ok (.iload_n 2, 1) := by decide +kernel
theorem dX9_next_62 : decode cX9_next 62 = .ok (.iadd, 1) := by decide +kernel
theorem dX9_next_63 : decode cX9_next 63 = .ok (.iaload, 1) := by decide +kernel
theorem dX9_next_64 : decode cX9_next 64 = .ok (.ireturn, 1) := by decide +kernel
theorem dX9_output_0 : decode cX9_output 0 = .ok (.aload_n 0, 1) := by decide +kernel
theorem dX9_output_1 : decode cX9_output 1 = .ok (.aload_n 0, 1) := by decide +kernel
theorem dX9_output_2 : decode cX9_output 2 = .ok (.getfield 104, 3) := by decide +kernel
theorem dX9_output_5 : decode cX9_output 5 = .ok (.ifCond .ge 7, 3) := by decide +kernel
theorem dX9_output_8 : decode cX9_output 8 = .ok (.iconst 1, 1) := by decide +kernel
theorem dX9_output_9 : decode cX9_output 9 = .ok (.goto 44, 3) := by decide +kernel
theorem dX9_output_12 : decode cX9_output 12 = .ok (.iload_n 1, 1) := by decide +kernel
theorem dX9_output_13 : decode cX9_output 13 = .ok (.ifCond .lt 35, 3) := by decide +kernel
theorem dX9_output_16 : decode cX9_output 16 = .ok (.iload_n 1, 1) := by decide +kernel
theorem dX9_output_17 : decode cX9_output 17 = .ok (.aload_n 0, 1) := by decide +kernel
theorem dX9_output_18 : decode cX9_output 18 = .ok (.getfield 259, 3) := by decide +kernel
theorem dX9_output_21 : decode cX9_output 21 = .ok (.if_icmp .gt 27, 3) := by decide +kernel
theorem dX9_output_24 : decode cX9_output 24 = .ok (.iload_n 2, 1) := by decide +kernel
theorem dX9_output_25 : decode cX9_output 25 = .ok (.ifCond .lt 23, 3) := by decide +kernel
theorem dX9_output_28 : decode cX9_output 28 = .ok (.iload_n 2, 1) := by decide +kernel
theorem dX9_output_29 : decode cX9_output 29 = .ok (.iconst 1, 1) := by decide +kernel
theorem dX9_output_30 : decode cX9_output 30 = .ok (.aload_n 0, 1) := by decide +kernel
theorem dX9_output_31 : decode cX9_output 31 = .ok (.getfield 259, 3) := by decide +kernel
theorem dX9_output_34 : decode cX9_output 34 = .ok (.ishl, 1) := by decide +kernel
theorem dX9_output_35 : decode cX9_output 35 = .ok (.if_icmp .ge 13, 3) := by decide +kernel
theorem dX9_output_38 : decode cX9_output 38 = .ok (.iload_n 3, 1) := by decide +kernel
theorem dX9_output_39 : decode cX9_output 39 = .ok (.ifCond .lt 9, 3) := by decide +kernel
theorem dX9_output_42 : decode cX9_output 42 = .ok (.iload_n 3, 1) := by decide +kernel
theorem dX9_output_43 : decode cX9_output 43 = .ok (.bipush 7, 2) := by decide +kernel
theorem dX9_output_45 : decode cX9_output 45 = .ok (.if_icmp .le 7, 3) := by decide +kernel
theorem dX9_output_48 : decode cX9_output 48 = .ok (.iconst 2, 1) := by decide +kernel
theorem dX9_output_49 : decode cX9_output 49 = .ok (.goto 4, 3) := by decide +kernel
theorem dX9_output_52 : decode cX9_output 52 = .ok (.iconst 0, 1) := by decide +kernel
theorem dX9_output_53 : decode cX9_output 53 = .ok (.putfield 128, 3) := by decide +kernel
theorem dX9_output_56 : decode cX9_output 56 = .ok (.aload_n 0, 1) := by decide +kernel
theorem dX9_output_57 : decode cX9_output 57 = .ok (.getfield 128, 3) := by decide +kernel
theorem dX9_output_60 : decode cX9_output 60 = .ok (.ifCond .le 5, 3) := by decide +kernel
theorem dX9_output_63 : decode cX9_output 63 = .ok (.iconst 0, 1) := by decide +kernel
theorem dX9_output_64 : decode cX9_output 64 = .ok (.ireturn, 1) := by decide +kernel
theorem dX9_output_65 : decode cX9_output 65 = .ok (.aload_n 0, 1) := by decide +kernel
theorem dX9_output_66 : decode cX9_output 66 = .ok (.iload_n 2, 1) := by decide +kernel
theorem dX9_output_67 : decode cX9_output 67 = .ok (.iload_n 3, 1) := by decide +kernel
theorem dX9_output_68 : decode cX9_output 68 = .ok (.invokevirtual 262, 3) := by decide +kernel
theorem dX9_output_71 : decode cX9_output 71 = .ok (.istore 4, 2) := by decide +kernel
theorem dX9_output_73 : decode cX9_output 73 = .ok (.iload_n 1, 1) := by decide +kernel
theorem dX9_output_74 : decode cX9_output 74 = .ok (.aload_n 0, 1) := by decide +kernel
theorem dX9_output_75 : decode cX9_output 75 = .ok (.getfield 259, 3) := by decide +kernel
theorem dX9_output_78 : decode cX9_output 78 = .ok (.if_icmp .ne 20, 3) := by decide +kernel
theorem dX9_output_81 : decode cX9_output 81 = .ok (.iload 4, 2) := by decide +kernel
theorem dX9_output_83 : decode cX9_output 83 = .ok (.aload_n 0, 1) := by decide +kernel
theorem dX9_output_84 : decode cX9_output 84 = .ok (.getfield 104, 3) := by decide +kernel
theorem dX9_output_87 : decode cX9_output 87 = .ok (.if_icmp .ne 7, 3) := by decide +kernel
theorem dX9_output_90 : decode cX9_output 90 = .ok (.iconst 1, 1) := by decide +kernel
theorem dX9_output_91 : decode cX9_output 91 = .ok (.goto 22, 3) := by decide +kernel
theorem dX9_output_94 : decode cX9_output 94 = .ok (.iconst 0, 1) := by decide +kernel
theorem dX9_output_95 : decode cX9_output 95 = .ok (.goto 18, 3) := by decide +kernel
theorem dX9_output_98 : decode cX9_output 98 = .ok (.iload 4, 2) := by decide +kernel
theorem dX9_output_100 : decode cX9_output 100 = .ok (.iload_n 1, 1) := by decide +kernel
theorem dX9_output_101 : decode cX9_output 101 = .ok (.ishr, 1) := by decide +kernel
theorem dX9_output_102 : decode cX9_output 102 = .ok (.iconst 1, 1) := by decide +kernel
theorem dX9_output_103 : decode cX9_output 103 = .ok (.iand, 1) := by decide +kernel
theorem dX9_output_104 : decode cX9_output 104 = .ok (.iconst 1, 1) := by decide +kernel
theorem dX9_output_105 : decode cX9_output 105 = .ok (.if_icmp .ne 7, 3) := by decide +kernel
theorem dX9_output_108 : decode cX9_output 108 = .ok (.iconst 1, 1) := by decide +kernel
theorem dX9_output_109 : decode cX9_output 109 = .ok (.goto 4, 3) := by decide +kernel
theorem dX9_output_112 : decode cX9_output 112 = .ok (.iconst 0, 1) := by decide +kernel
theorem dX9_output_113 : decode cX9_output 113 = .ok (.ireturn, 1) := by decide +kernel
theorem dX9_begin_0 : decode cX9_begin 0 = .ok (.aload_n 0, 1) := by decide +kernel
theorem dX9_begin_1 : decode cX9_begin 1 = .ok (.aload_n 0, 1) := by decide +kernel
theorem dX9_begin_2 : decode cX9_begin 2 = .ok (.getfield 104, 3) := by decide +kernel
theorem dX9_begin_5 : decode cX9_begin 5 = .ok (.ifCond .ge 7, 3) := by decide +kernel
theorem dX9_begin_8 : decode cX9_begin 8 = .ok (.iconst 1, 1) := by decide +kernel
theorem dX9_begin_9 : decode cX9_begin 9 = .ok (.goto 4, 3) := by decide +kernel
theorem dX9_begin_12 : decode cX9_begin 12 = .ok (.iconst 0, 1) := by decide +kernel
theorem dX9_begin_13 : decode cX9_begin 13 = .ok (.putfield 128, 3) := by decide +kernel
theorem dX9_begin_16 : decode cX9_begin 16 = .ok (.aload_n 0, 1) := by decide +kernel
theorem dX9_begin_17 : decode cX9_begin 17 = .ok (.getfield 128, 3) := by decide +kernel
theorem dX9_begin_20 : decode cX9_begin 20 = .ok (.ifCond .le 5, 3) := by decide +kernel
theorem dX9_begin_23 : decode cX9_begin 23 = .ok (.iconst 0, 1) := by decide +kernel
theorem dX9_begin_24 : decode cX9_begin 24 = .ok (.ireturn, 1) := by decide +kernel
theorem dX9_begin_25 : decode cX9_begin 25 = .ok (.aload_n 0, 1) := by decide +kernel
theorem dX9_begin_26 : decode cX9_begin 26 = .ok (.iconst 0, 1) := by decide +kernel
theorem dX9_begin_27 : decode cX9_begin 27 = .ok (.putfield 119, 3) := by decide +kernel
theorem dX9_begin_30 : decode cX9_begin 30 = .ok (.aload_n 0, 1) := by decide +kernel
theorem dX9_begin_31 : decode cX9_begin 31 = .ok (.aload_n 0, 1) := by decide +kernel
theorem dX9_begin_32 : decode cX9_begin 32 = .ok (.getfield 104, 3) := by decide +kernel
theorem dX9_begin_35 : decode cX9_begin 35 = .ok (.ifCond .le 7, 3) := by decide +kernel
theorem dX9_begin_38 : decode cX9_begin 38 = .ok (.iconst 0, 1) := by decide +kernel
theorem dX9_begin_39 : decode cX9_begin 39 = .ok (.goto 4, 3) := by decide +kernel
theorem dX9_begin_42 : decode cX9_begin 42 = .ok (.iconst (-1), 1) := by decide +kernel
theorem dX9_begin_43 : decode cX9_begin 43 = .ok (.putfield 306, 3) := by decide +kernel
theorem dX9_begin_46 : decode cX9_begin 46 = .ok (.aload_n 0, 1) := by decide +kernel
theorem dX9_begin_47 : decode cX9_begin 47 = .ok (.getfield 104, 3) := by decide +kernel
theorem dX9_begin_50 : decode cX9_begin 50 = .ok (.ifCond .le 7, 3) := by decide +kernel
theorem dX9_begin_53 : decode cX9_begin 53 = .ok (.iconst 1, 1) := by decide +kernel
theorem dX9_begin_54 : decode cX9_begin 54 = .ok (.goto 4, 3) := by decide +kernel
theorem dX9_begin_57 : decode cX9_begin 57 = .ok (.iconst 0, 1) := by decide +kernel
theorem dX9_begin_58 : decode cX9_begin 58 = .ok (.ireturn, 1) := by decide +kernel
theorem dX9_step_0 : decode cX9_step 0 = .ok (.aload_n 0, 1) := by decide +kernel
theorem dX9_step_1 : decode cX9_step 1 = .ok (.aload_n 0, 1) := by decide +kernel
theorem dX9_step_2 : decode cX9_step 2 = .ok (.getfield 119, 3) := by decide +kernel
theorem dX9_step_5 : decode cX9_step 5 = .ok (.ifCond .lt 19, 3) := by decide +kernel
theorem dX9_step_8 : decode cX9_step 8 = .ok (.aload_n 0, 1) := by decide +kernel
theorem dX9_step_9 : decode cX9_step 9 = .ok (.getfield 306, 3) := by decide +kernel
theorem dX9_step_12 : decode cX9_step 12 = .ok (.ifCond .lt 12, 3) := by decide +kernel
theorem dX9_step_15 : decode cX9_step 15 = .ok (.aload_n 0, 1) := by decide +kernel
theorem dX9_step_16 : decode cX9_step 16 = .ok (.getfield 119, 3) := by decide +kernel
theorem dX9_step_19 : decode cX9_step 19 = .ok (.bipush 60, 2) := by decide +kernel
theorem dX9_step_21 : decode cX9_step 21 = .ok (.if_icmp .ne 7, 3) := by decide +kernel
theorem dX9_step_24 : decode cX9_step 24 = .ok (.iconst 1, 1) := by decide +kernel
theorem dX9_step_25 : decode cX9_step 25 = .ok (.goto 18, 3) := by decide +kernel
theorem dX9_step_28 : decode cX9_step 28 = .ok (.iload_n 1, 1) := by decide +kernel
theorem dX9_step_29 : decode cX9_step 29 = .ok (.ifCond .lt 9, 3) := by decide +kernel
theorem dX9_step_32 : decode cX9_step 32 = .ok (.iload_n 1, 1) := by decide +kernel
theorem dX9_step_33 : decode cX9_step 33 = .ok (.bipush 7, 2) := by decide +kernel
theorem dX9_step_35 : decode cX9_step 35 = .ok (.if_icmp .le 7, 3) := by decide +kernel
theorem dX9_step_38 : decode cX9_step 38 = .ok (.iconst 2, 1) := by decide +kernel
theorem dX9_step_39 : decode cX9_step 39 = .ok (.goto 4, 3) := by decide +kernel
theorem dX9_step_42 : decode cX9_step 42 = .ok (.iconst 0, 1) := by decide +kernel
theorem dX9_step_43 : decode cX9_step 43 = .ok (.putfield 128, 3) := by decide +kernel
theorem dX9_step_46 : decode cX9_step 46 = .ok (.aload_n 0, 1) := by decide +kernel
theorem dX9_step_47 : decode cX9_step 47 = .ok (.getfield 128, 3) := by decide +kernel
theorem dX9_step_50 : decode cX9_step 50 = .ok (.ifCond .le 5, 3) := by decide +kernel
theorem dX9_step_53 : decode cX9_step 53 = .ok (.iconst 0, 1) := by decide +kernel
theorem dX9_step_54 : decode cX9_step 54 = .ok (.ireturn, 1) := by decide +kernel
theorem dX9_step_55 : decode cX9_step 55 = .ok (.aload_n 0, 1) := by decide +kernel
theorem dX9_step_56 : decode cX9_step 56 = .ok (.getfield 122, 3) := by decide +kernel
theorem dX9_step_59 : decode cX9_step 59 = .ok (.aload_n 0, 1) := by decide +kernel
theorem dX9_step_60 : decode cX9_step 60 = .ok (.getfield 119, 3) := by decide +kernel
theorem dX9_step_63 : decode cX9_step 63 = .ok (.iload_n 1, 1) := by decide +kernel
theorem dX9_step_64 : decode cX9_step 64 = .ok (.iastore, 1) := by decide +kernel
theorem dX9_step_65 : decode cX9_step 65 = .ok (.aload_n 0, 1) := by decide +kernel
theorem dX9_step_66 : decode cX9_step 66 = .ok (.dup, 1) := by decide +kernel
theorem dX9_step_67 : decode cX9_step 67 = .ok (.getfield 119, 3) := by decide +kernel
theorem dX9_step_70 : decode cX9_step 70 = .ok (.iconst 1, 1) := by decide +kernel
theorem dX9_step_71 : decode cX9_step 71 = .ok (.iadd, 1) := by decide +kernel
theorem dX9_step_72 : decode cX9_step 72 = .ok (.putfield 119, 3) := by decide +kernel
theorem dX9_step_75 : decode cX9_step 75 = .ok (.aload_n 0, 1) := by decide +kernel
theorem dX9_step_76 : decode cX9_step 76 = .ok (.aload_n 0, 1) := by decide +kernel
theorem dX9_step_77 : decode cX9_step 77 = .ok (.getfield 107, 3) := by decide +kernel
theorem dX9_step_80 : decode cX9_step 80 = .ok (.bipush 8, 2) := by decide +kernel
theorem dX9_step_82 : decode cX9_step 82 = .ok (.aload_n 0, 1) := by decide +kernel
theorem dX9_step_83 : decode cX9_step 83 = .ok (.getfield 306, 3) := by decide +kernel
theorem dX9_step_86 : decode cX9_step 86 = .ok (.imul, 1) := by decide +kernel
theorem dX9_step_87 : decode cX9_step 87 = .ok (.iload_n 1, 1) := by decide +kernel
theorem dX9_step_88 : decode cX9_step 88 = .ok (.iadd, 1) := by decide +kernel
theorem dX9_step_89 : decode cX9_step 89 = .ok (.iaload, 1) := by decide +kernel
theorem dX9_step_90 : decode cX9_step 90 = .ok (.putfield 306, 3) := by decide +kernel
theorem dX9_step_93 : decode cX9_step 93 = .ok (.aload_n 0, 1) := by decide +kernel
theorem dX9_step_94 : decode cX9_step 94 = .ok (.getfield 306, 3) := by decide +kernel
theorem dX9_step_97 : decode cX9_step 97 = .ok (.ireturn, 1) := by decide +kernel
theorem dX9_time_0 : decode cX9_time 0 = .ok (.aload_n 0, 1) := by decide +kernel
theorem dX9_time_1 : decode cX9_time 1 = .ok (.iconst 0, 1) := by decide +kernel
theorem dX9_time_2 : decode cX9_time 2 = .ok (.putfield 128, 3) := by decide +kernel
theorem dX9_time_5 : decode cX9_time 5 = .ok (.aload_n 0, 1) := by decide +kernel
theorem dX9_time_6 : decode cX9_time 6 = .ok (.getfield 119, 3) := by decide +kernel
theorem dX9_time_9 : decode cX9_time 9 = .ok (.ireturn, 1) := by decide +kernel
theorem dX9_fails_0 : decode cX9_fails 0 = .ok (.aload_n 0, 1) := by decide +kernel
theorem dX9_fails_1 : decode cX9_fails 1 = .ok (.getfield 104, 3) := by decide +kernel
theorem dX9_fails_4 : decode cX9_fails 4 = .ok (.ifCond .le 7, 3) := by decide +kernel
theorem dX9_fails_7 : decode cX9_fails 7 = .ok (.iconst 0, 1) := by decide +kernel
theorem dX9_fails_8 : decode cX9_fails 8 = .ok (.goto 4, 3) := by decide +kernel
theorem dX9_fails_11 : decode cX9_fails 11 = .ok (.iconst (-1), 1) := by decide +kernel
theorem dX9_fails_12 : decode cX9_fails 12 = .ok (.istore_n 2, 1) := by decide +kernel
theorem dX9_fails_13 : decode cX9_fails 13 = .ok (.aload_n 0, 1) := by decide +kernel
theorem dX9_fails_14 : decode cX9_fails 14 = .ok (.getfield 119, 3) := by decide +kernel
theorem dX9_fails_17 : decode cX9_fails 17 = .ok (.iload_n 1, 1) := by decide +kernel
theorem dX9_fails_18 : decode cX9_fails 18 = .ok (.isub, 1) := by decide +kernel
theorem dX9_fails_19 : decode cX9_fails 19 = .ok (.istore_n 3, 1) := by decide +kernel
theorem dX9_fails_20 : decode cX9_fails 20 = .ok (.iload_n 3, 1) := by decide +kernel
theorem dX9_fails_21 : decode cX9_fails 21 = .ok (.aload_n 0, 1) := by decide +kernel
theorem dX9_fails_22 : decode cX9_fails 22 = .ok (.getfield 119, 3) := by decide +kernel
theorem dX9_fails_25 : decode cX9_fails 25 = .ok (.if_icmp .ge 30, 3) := by decide +kernel
theorem dX9_fails_28 : decode cX9_fails 28 = .ok (.iload_n 2, 1) := by decide +kernel
theorem dX9_fails_29 : decode cX9_fails 29 = .ok (.ifCond .lt 26, 3) := by decide +kernel
theorem dX9_fails_32 : decode cX9_fails 32 = .ok (.aload_n 0, 1) := by decide +kernel
theorem dX9_fails_33 : decode cX9_fails 33 = .ok (.getfield 107, 3) := by decide +kernel
theorem dX9_fails_36 : decode cX9_fails 36 = .ok (.bipush 8, 2) := by decide +kernel
theorem dX9_fails_38 : decode cX9_fails 38 = .ok (.iload_n 2, 1) := by decide +kernel
theorem dX9_fails_39 : decode cX9_fails 39 = .ok (.imul, 1) := by decide +kernel
theorem dX9_fails_40 : decode cX9_fails 40 = .ok (.aload_n 0, 1) := by decide +kernel
theorem dX9_fails_41 : decode cX9_fails 41 = .ok (.getfield 122, 3) := by decide +kernel
theorem dX9_fails_44 : decode cX9_fails 44 = .ok (.iload_n 3, 1) := by decide +kernel
theorem dX9_fails_45 : decode cX9_fails 45 = .ok (.iaload, 1) := by decide +kernel
theorem dX9_fails_46 : decode cX9_fails 46 = .ok (.iadd, 1) := by decide +kernel
theorem dX9_fails_47 : decode cX9_fails 47 = .ok (.iaload, 1) := by decide +kernel
theorem dX9_fails_48 : decode cX9_fails 48 = .ok (.istore_n 2, 1) := by decide +kernel
theorem dX9_fails_49 : decode cX9_fails 49 = .ok (.iinc 3 1, 3) := by decide +kernel
theorem dX9_fails_52 : decode cX9_fails 52 = .ok (.goto (-32), 3) := by decide +kernel
theorem dX9_fails_55 : decode cX9_fails 55 = .ok (.iload_n 2, 1) := by decide +kernel
theorem dX9_fails_56 : decode cX9_fails 56 = .ok (.ifCond .ge 7, 3) := by decide +kernel
theorem dX9_fails_59 : decode cX9_fails 59 = .ok (.iconst 1, 1) := by decide +kernel
theorem dX9_fails_60 : decode cX9_fails 60 = .ok (.goto 4, 3) := by decide +kernel
theorem dX9_fails_63 : decode cX9_fails 63 = .ok (.iconst 0, 1) := by decide +kernel
theorem dX9_fails_64 : decode cX9_fails 64 = .ok (.ireturn, 1) := by decide +kernel
theorem dX9_shortest_0 : decode cX9_shortest 0 = .ok (.aload_n 0, 1) := by decide +kernel
theorem dX9_shortest_1 : decode cX9_shortest 1 = .ok (.getfield 119, 3) := by decide +kernel
theorem dX9_shortest_4 : decode cX9_shortest 4 = .ok (.ifCond .lt 10, 3) := by decide +kernel
theorem dX9_shortest_7 : decode cX9_shortest 7 = .ok (.aload_n 0, 1) := by decide +kernel
theorem dX9_shortest_8 : decode cX9_shortest 8 = .ok (.getfield 306, 3) := by decide +kernel
theorem dX9_shortest_11 : decode cX9_shortest 11 = .ok (.ifCond .lt 5, 3) := by decide +kernel
theorem dX9_shortest_14 : decode cX9_shortest 14 = .ok (.iconst (-1), 1) := by decide +kernel
theorem dX9_shortest_15 : decode cX9_shortest 15 = .ok (.ireturn, 1) := by decide +kernel
theorem dX9_shortest_16 : decode cX9_shortest 16 = .ok (.iconst 0, 1) := by decide +kernel
theorem dX9_shortest_17 : decode cX9_shortest 17 = .ok (.istore_n 1, 1) := by decide +kernel
theorem dX9_shortest_18 : decode cX9_shortest 18 = .ok (.iload_n 1, 1) := by decide +kernel
theorem dX9_shortest_19 : decode cX9_shortest 19 = .ok (.aload_n 0, 1) := by decide +kernel
theorem dX9_shortest_20 : decode cX9_shortest 20 = .ok (.getfield 119, 3) := by decide +kernel
theorem dX9_shortest_23 : decode cX9_shortest 23 = .ok (.if_icmp .ge 17, 3) := by decide +kernel
theorem dX9_shortest_26 : decode cX9_shortest 26 = .ok (.aload_n 0, 1) := by decide +kernel
theorem dX9_shortest_27 : decode cX9_shortest 27 = .ok (.iload_n 1, 1) := by decide +kernel
theorem dX9_shortest_28 : decode cX9_shortest 28 = .ok (.invokevirtual 309, 3) := by decide +kernel
theorem dX9_shortest_31 : decode cX9_shortest 31 = .ok (.ifCond .ne 9, 3) := by decide +kernel
theorem dX9_shortest_34 : decode cX9_shortest 34 = .ok (.iinc 1 1, 3) := by decide +kernel
theorem dX9_shortest_37 : decode cX9_shortest 37 = .ok (.goto (-19), 3) := by decide +kernel
theorem dX9_shortest_40 : decode cX9_shortest 40 = .ok (.iload_n 1, 1) := by decide +kernel
theorem dX9_shortest_41 : decode cX9_shortest 41 = .ok (.ireturn, 1) := by decide +kernel
theorem dX9_window_0 : decode cX9_window 0 = .ok (.aload_n 0, 1) := by decide +kernel
theorem dX9_window_1 : decode cX9_window 1 = .ok (.iconst 0, 1) := by decide +kernel
theorem dX9_window_2 : decode cX9_window 2 = .ok (.putfield 128, 3) := by decide +kernel
theorem dX9_window_5 : decode cX9_window 5 = .ok (.aload_n 0, 1) := by decide +kernel
theorem dX9_window_6 : decode cX9_window 6 = .ok (.invokevirtual 312, 3) := by decide +kernel
theorem dX9_window_9 : decode cX9_window 9 = .ok (.ireturn, 1) := by decide +kernel
theorem dX9_loop_0 : decode cX9_loop 0 = .ok (.aload_n 0, 1) := by decide +kernel
theorem dX9_loop_1 : decode cX9_loop 1 = .ok (.aload_n 0, 1) := by decide +kernel
theorem dX9_loop_2 : decode cX9_loop 2 = .ok (.getfield 119, 3) := by decide +kernel
theorem dX9_loop_5 : decode cX9_loop 5 = .ok (.ifCond .ge 7, 3) := by decide +kernel
theorem dX9_loop_8 : decode cX9_loop 8 = .ok (.iconst 1, 1) := by decide +kernel
theorem dX9_loop_9 : decode cX9_loop 9 = .ok (.goto 20, 3) := by decide +kernel
theorem dX9_loop_12 : decode cX9_loop 12 = .ok (.iload_n 1, 1) := by decide +kernel
theorem dX9_loop_13 : decode cX9_loop 13 = .ok (.ifCond .lt 11, 3) := by decide +kernel
theorem dX9_loop_16 : decode cX9_loop 16 = .ok (.iload_n 1, 1) := by decide +kernel
theorem dX9_loop_17 : decode cX9_loop 17 = .ok (.aload_n 0, 1) := by decide +kernel
theorem dX9_loop_18 : decode cX9_loop 18 = .ok (.getfield 119, 3) := by decide +kernel
theorem dX9_loop_21 : decode cX9_loop 21 = .ok (.if_icmp .lt 7, 3) := by decide +kernel
theorem dX9_loop_24 : decode cX9_loop 24 = .ok (.iconst 2, 1) := by decide +kernel
theorem dX9_loop_25 : decode cX9_loop 25 = .ok (.goto 4, 3) := by decide +kernel
theorem dX9_loop_28 : decode cX9_loop 28 = .ok (.iconst 0, 1) := by decide +kernel
theorem dX9_loop_29 : decode cX9_loop 29 = .ok (.putfield 128, 3) := by decide +kernel
theorem dX9_loop_32 : decode cX9_loop 32 = .ok (.aload_n 0, 1) := by decide +kernel
theorem dX9_loop_33 : decode cX9_loop 33 = .ok (.getfield 128, 3) := by decide +kernel
theorem dX9_loop_36 : decode cX9_loop 36 = .ok (.ifCond .le 5, 3) := by decide +kernel
theorem dX9_loop_39 : decode cX9_loop 39 = .ok (.iconst 0, 1) := by decide +kernel
theorem dX9_loop_40 : decode cX9_loop 40 = .ok (.ireturn, 1) := by decide +kernel
theorem dX9_loop_41 : decode cX9_loop 41 = .ok (.aload_n 0, 1) := by decide +kernel
theorem dX9_loop_42 : decode cX9_loop 42 = .ok (.getfield 306, 3) := by decide +kernel
theorem dX9_loop_45 : decode cX9_loop 45 = .ok (.istore_n 2, 1) := by decide +kernel
theorem dX9_loop_46 : decode cX9_loop 46 = .ok (.iconst 0, 1) := by decide +kernel
theorem dX9_loop_47 : decode cX9_loop 47 = .ok (.istore_n 3, 1) := by decide +kernel
theorem dX9_loop_48 : decode cX9_loop 48 = .ok (.iload_n 3, 1) := by decide +kernel
theorem dX9_loop_49 : decode cX9_loop 49 = .ok (.bipush 41, 2) := by decide +kernel
theorem dX9_loop_51 : decode cX9_loop 51 = .ok (.if_icmp .ge 49, 3) := by decide +kernel
theorem dX9_loop_54 : decode cX9_loop 54 = .ok (.iload_n 1, 1) := by decide +kernel
theorem dX9_loop_55 : decode cX9_loop 55 = .ok (.istore 4, 2) := by decide +kernel
theorem dX9_loop_57 : decode cX9_loop 57 = .ok (.iload 4, 2) := by decide +kernel
theorem dX9_loop_59 : decode cX9_loop 59 = .ok (.aload_n 0, 1) := by decide +kernel
theorem dX9_loop_60 : decode cX9_loop 60 = .ok (.getfield 119, 3) := by decide +kernel
theorem dX9_loop_63 : decode cX9_loop 63 = .ok (.if_icmp .ge 31, 3) := by decide +kernel
theorem dX9_loop_66 : decode cX9_loop 66 = .ok (.iload_n 2, 1) := by decide +kernel
theorem dX9_loop_67 : decode cX9_loop 67 = .ok (.ifCond .lt 27, 3) := by decide +kernel
theorem dX9_loop_70 : decode cX9_loop 70 = .ok (.aload_n 0, 1) := by decide +kernel
theorem dX9_loop_71 : decode cX9_loop 71 = .ok (.getfield 107, 3) := by decide +kernel
theorem dX9_loop_74 : decode cX9_loop 74 = .ok (.bipush 8, 2) := by decide +kernel
theorem dX9_loop_76 : decode cX9_loop 76 = .ok (.iload_n 2, 1) := by decide +kernel
theorem dX9_loop_77 : decode cX9_loop 77 = .ok (.imul, 1) := by decide +kernel
theorem dX9_loop_78 : decode cX9_loop 78 = .ok (.aload_n 0, 1) := by decide +kernel
theorem dX9_loop_79 : decode cX9_loop 79 = .ok (.getfield 122, 3) := by decide +kernel
theorem dX9_loop_82 : decode cX9_loop 82 = .ok (.iload 4, 2) := by decide +kernel
theorem dX9_loop_84 : decode cX9_loop 84 = .ok (.iaload, 1) := by decide +kernel
theorem dX9_loop_85 : decode cX9_loop 85 = .ok (.iadd, 1) := by decide +kernel
theorem dX9_loop_86 : decode cX9_loop 86 = .ok (.iaload, 1) := by decide +kernel
theorem dX9_loop_87 : decode cX9_loop 87 = .ok (.istore_n 2, 1) := by decide +kernel
theorem dX9_loop_88 : decode cX9_loop 88 = .ok (.iinc 4 1, 3) := by decide +kernel
theorem dX9_loop_91 : decode cX9_loop 91 = .ok (.goto (-34), 3) := by decide +kernel
theorem dX9_loop_94 : decode cX9_loop 94 = .ok (.iinc 3 1, 3) := by decide +kernel
theorem dX9_loop_97 : decode cX9_loop 97 = .ok (.goto (-49), 3) := by decide +kernel
theorem dX9_loop_100 : decode cX9_loop 100 = .ok (.iload_n 2, 1) := by decide +kernel
theorem dX9_loop_101 : decode cX9_loop 101 = .ok (.ifCond .lt 7, 3) := by decide +kernel
theorem dX9_loop_104 : decode cX9_loop 104 = .ok (.iconst 1, 1) := by decide +kernel
theorem dX9_loop_105 : decode cX9_loop 105 = .ok (.goto 4, 3) := by decide +kernel
theorem dX9_loop_108 : decode cX9_loop 108 = .ok (.iconst 0, 1) := by decide +kernel
theorem dX9_loop_109 : decode cX9_loop 109 = .ok (.ireturn, 1) := by decide +kernel
theorem dX9_tell_0 : decode cX9_tell 0 = .ok (.aload_n 0, 1) := by decide +kernel
theorem dX9_tell_1 : decode cX9_tell 1 = .ok (.getfield 125, 3) := by decide +kernel
theorem dX9_tell_4 : decode cX9_tell 4 = .ok (.aload_n 0, 1) := by decide +kernel
theorem dX9_tell_5 : decode cX9_tell 5 = .ok (.getfield 316, 3) := by decide +kernel
theorem dX9_tell_8 : decode cX9_tell 8 = .ok (.iload_n 1, 1) := by decide +kernel
theorem dX9_tell_9 : decode cX9_tell 9 = .ok (.castore, 1) := by decide +kernel
theorem dX9_tell_10 : decode cX9_tell 10 = .ok (.aload_n 0, 1) := by decide +kernel
theorem dX9_tell_11 : decode cX9_tell 11 = .ok (.dup, 1) := by decide +kernel
theorem dX9_tell_12 : decode cX9_tell 12 = .ok (.getfield 316, 3) := by decide +kernel
theorem dX9_tell_15 : decode cX9_tell 15 = .ok (.iconst 1, 1) := by decide +kernel
theorem dX9_tell_16 : decode cX9_tell 16 = .ok (.iadd, 1) := by decide +kernel
theorem dX9_tell_17 : decode cX9_tell 17 = .ok (.putfield 316, 3) := by decide +kernel
theorem dX9_tell_20 : decode cX9_tell 20 = .ok (.return_, 1) := by decide +kernel
theorem dX9_tellNumber_0 : decode cX9_tellNumber 0 = .ok (.iload_n 1, 1) := by decide +kernel
theorem dX9_tellNumber_1 : decode cX9_tellNumber 1 = .ok (.bipush 9, 2) := by decide +kernel
theorem dX9_tellNumber_3 : decode cX9_tellNumber 3 = .ok (.if_icmp .le 15, 3) := by decide +kernel
theorem dX9_tellNumber_6 : decode cX9_tellNumber 6 = .ok (.aload_n 0, 1) := by decide +kernel
theorem dX9_tellNumber_7 : decode cX9_tellNumber 7 = .ok (.bipush 48, 2) := by decide +kernel
theorem dX9_tellNumber_9 : decode cX9_tellNumber 9 = .ok (.iload_n 1, 1) := by decide +kernel
theorem dX9_tellNumber_10 : decode cX9_tellNumber 10 = .ok (.bipush 10, 2) := by decide +kernel
theorem dX9_tellNumber_12 : decode cX9_tellNumber 12 = .ok (.idiv, 1) := by decide +kernel
theorem dX9_tellNumber_13 : decode cX9_tellNumber 13 = .ok (.iadd, 1) := by decide +kernel
theorem dX9_tellNumber_14 : decode cX9_tellNumber 14 = .ok (.i2c, 1) := by decide +kernel
theorem dX9_tellNumber_15 : decode cX9_tellNumber 15 = .ok (.invokevirtual 319, 3) := by decide +kernel
theorem dX9_tellNumber_18 : decode cX9_tellNumber 18 = .ok (.aload_n 0, 1) := by decide +kernel
theorem dX9_tellNumber_19 : decode cX9_tellNumber 19 = .ok (.bipush 48, 2) := by decide +kernel
theorem dX9_tellNumber_21 : decode cX9_tellNumber 21 = .ok (.iload_n 1, 1) := by decide +kernel
theorem dX9_tellNumber_22 : decode cX9_tellNumber 22 = .ok (.bipush 10, 2) := by decide +kernel
theorem dX9_tellNumber_24 : decode cX9_tellNumber 24 = .ok (.irem, 1) := by decide +kernel
theorem dX9_tellNumber_25 : decode cX9_tellNumber 25 = .ok (.iadd, 1) := by decide +kernel
theorem dX9_tellNumber_26 : decode cX9_tellNumber 26 = .ok (.i2c, 1) := by decide +kernel
theorem dX9_tellNumber_27 : decode cX9_tellNumber 27 = .ok (.invokevirtual 319, 3) := by decide +kernel
theorem dX9_tellNumber_30 : decode cX9_tellNumber 30 = .ok (.return_, 1) := by decide +kernel
theorem dX9_tellWord_0 : decode cX9_tellWord 0 = .ok (.iload_n 1, 1) := by decide +kernel
theorem dX9_tellWord_1 : decode cX9_tellWord 1 = .ok (.ifCond .ne 9, 3) := by decide +kernel
theorem dX9_tellWord_4 : decode cX9_tellWord 4 = .ok (.ldc2_w 323, 3) := by decide +kernel
theorem dX9_tellWord_7 : decode cX9_tellWord 7 = .ok (.goto 50, 3) := by decide +kernel
theorem dX9_tellWord_10 : decode cX9_tellWord 10 = .ok (.iload_n 1, 1) := by decide +kernel
theorem dX9_tellWord_11 : decode cX9_tellWord 11 = .ok (.iconst 1, 1) := by decide +kernel
theorem dX9_tellWord_12 : decode cX9_tellWord 12 = .ok (.if_icmp .ne 9, 3) := by decide +kernel
theorem dX9_tellWord_15 : decode cX9_tellWord 15 = .ok (.ldc2_w 325, 3) := by decide +kernel
theorem dX9_tellWord_18 : decode cX9_tellWord 18 = .ok (.goto 39, 3) := by decide +kernel
theorem dX9_tellWord_21 : decode cX9_tellWord 21 = .ok (.iload_n 1, 1) := by decide +kernel
theorem dX9_tellWord_22 : decode cX9_tellWord 22 = .ok (.iconst 2, 1) := by decide +kernel
theorem dX9_tellWord_23 : decode cX9_tellWord 23 = .ok (.if_icmp .ne 9, 3) := by decide +kernel
theorem dX9_tellWord_26 : decode cX9_tellWord 26 = .ok (.ldc2_w 327, 3) := by decide +kernel
theorem dX9_tellWord_29 : decode cX9_tellWord 29 = .ok (.goto 28, 3) := by decide +kernel
theorem dX9_tellWord_32 : decode cX9_tellWord 32 = .ok (.iload_n 1, 1) := by decide +kernel
theorem dX9_tellWord_33 : decode cX9_tellWord 33 = .ok (.iconst 3, 1) := by decide +kernel
theorem dX9_tellWord_34 : decode cX9_tellWord 34 = .ok (.if_icmp .ne 9, 3) := by decide +kernel
theorem dX9_tellWord_37 : decode cX9_tellWord 37 = .ok (.ldc2_w 329, 3) := by decide +kernel
theorem dX9_tellWord_40 : decode cX9_tellWord 40 = .ok (.goto 17, 3) := by decide +kernel
theorem dX9_tellWord_43 : decode cX9_tellWord 43 = .ok (.iload_n 1, 1) := by decide +kernel
theorem dX9_tellWord_44 : decode cX9_tellWord 44 = .ok (.iconst 4, 1) := by decide +kernel
theorem dX9_tellWord_45 : decode cX9_tellWord 45 = .ok (.if_icmp .ne 9, 3) := by decide +kernel
theorem dX9_tellWord_48 : decode cX9_tellWord 48 = .ok (.ldc2_w 331, 3) := by decide +kernel
theorem dX9_tellWord_51 : decode cX9_tellWord 51 = .ok (.goto 6, 3) := by decide +kernel
theorem dX9_tellWord_54 : decode cX9_tellWord 54 = .ok (.ldc2_w 333, 3) := by decide +kernel
theorem dX9_tellWord_57 : decode cX9_tellWord 57 = .ok (.lstore_n 2, 1) := by decide +kernel
theorem dX9_tellWord_58 : decode cX9_tellWord 58 = .ok (.lload_n 2, 1) := by decide +kernel
theorem dX9_tellWord_59 : decode cX9_tellWord 59 = .ok (.lconst 0, 1) := by decide +kernel
theorem dX9_tellWord_60 : decode cX9_tellWord 60 = .ok (.lcmp, 1) := by decide +kernel
theorem dX9_tellWord_61 : decode cX9_tellWord 61 = .ok (.ifCond .eq 22, 3) := by decide +kernel
theorem dX9_tellWord_64 : decode cX9_tellWord 64 = .ok (.aload_n 0, 1) := by decide +kernel
theorem dX9_tellWord_65 : decode cX9_tellWord 65 = .ok (.lload_n 2, 1) := by decide +kernel
theorem dX9_tellWord_66 : decode cX9_tellWord 66 = .ok (.ldc2_w 131, 3) := by decide +kernel
theorem dX9_tellWord_69 : decode cX9_tellWord 69 = .ok (.land, 1) := by decide +kernel
theorem dX9_tellWord_70 : decode cX9_tellWord 70 = .ok (.l2i, 1) := by decide +kernel
theorem dX9_tellWord_71 : decode cX9_tellWord 71 = .ok (.i2c, 1) := by decide +kernel
theorem dX9_tellWord_72 : decode cX9_tellWord 72 = .ok (.invokevirtual 319, 3) := by decide +kernel
theorem dX9_tellWord_75 : decode cX9_tellWord 75 = .ok (.lload_n 2, 1) := by decide +kernel
theorem dX9_tellWord_76 : decode cX9_tellWord 76 = .ok (.bipush 8, 2) := by decide +kernel
theorem dX9_tellWord_78 : decode cX9_tellWord 78 = .ok (.lshr, 1) := by decide +kernel
theorem dX9_tellWord_79 : decode cX9_tellWord 79 = .ok (.lstore_n 2, 1) := by decide +kernel
theorem dX9_tellWord_80 : decode cX9_tellWord 80 = .ok (.goto (-22), 3) := by decide +kernel
theorem dX9_tellWord_83 : decode cX9_tellWord 83 = .ok (.return_, 1) := by decide +kernel
theorem dX9_report_0 : decode cX9_report 0 = .ok (.aload_n 0, 1) := by decide +kernel
theorem dX9_report_1 : decode cX9_report 1 = .ok (.iconst 0, 1) := by decide +kernel
theorem dX9_report_2 : decode cX9_report 2 = .ok (.putfield 128, 3) := by decide +kernel
theorem dX9_report_5 : decode cX9_report 5 = .ok (.aload_n 0, 1) := by decide +kernel
theorem dX9_report_6 : decode cX9_report 6 = .ok (.iconst 0, 1) := by decide +kernel
theorem dX9_report_7 : decode cX9_report 7 = .ok (.putfield 316, 3) := by decide +kernel
theorem dX9_report_10 : decode cX9_report 10 = .ok (.aload_n 0, 1) := by decide +kernel
theorem dX9_report_11 : decode cX9_report 11 = .ok (.getfield 104, 3) := by decide +kernel
theorem dX9_report_14 : decode cX9_report 14 = .ok (.ifCond .ge 11, 3) := by decide +kernel
theorem dX9_report_17 : decode cX9_report 17 = .ok (.aload_n 0, 1) := by decide +kernel
theorem dX9_report_18 : decode cX9_report 18 = .ok (.iconst 0, 1) := by decide +kernel
theorem dX9_report_19 : decode cX9_report 19 = .ok (.invokevirtual 335, 3) := by decide +kernel
theorem dX9_report_22 : decode cX9_report 22 = .ok (.goto 88, 3) := by decide +kernel
theorem dX9_report_25 : decode cX9_report 25 = .ok (.aload_n 0, 1) := by decide +kernel
theorem dX9_report_26 : decode cX9_report 26 = .ok (.getfield 119, 3) := by decide +kernel
theorem dX9_report_29 : decode cX9_report 29 = .ok (.ifCond .ge 19, 3) := by decide +kernel
theorem dX9_report_32 : decode cX9_report 32 = .ok (.aload_n 0, 1) := by decide +kernel
theorem dX9_report_33 : decode cX9_report 33 = .ok (.iconst 1, 1) := by decide +kernel
theorem dX9_report_34 : decode cX9_report 34 = .ok (.invokevirtual 335, 3) := by decide +kernel
theorem dX9_report_37 : decode cX9_report 37 = .ok (.aload_n 0, 1) := by decide +kernel
theorem dX9_report_38 : decode cX9_report 38 = .ok (.aload_n 0, 1) := by decide +kernel
theorem dX9_report_39 : decode cX9_report 39 = .ok (.getfield 104, 3) := by decide +kernel
theorem dX9_report_42 : decode cX9_report 42 = .ok (.invokevirtual 338, 3) := by decide +kernel
theorem dX9_report_45 : decode cX9_report 45 = .ok (.goto 65, 3) := by decide +kernel
theorem dX9_report_48 : decode cX9_report 48 = .ok (.aload_n 0, 1) := by decide +kernel
theorem dX9_report_49 : decode cX9_report 49 = .ok (.aload_n 0, 1) := by decide +kernel
theorem dX9_report_50 : decode cX9_report 50 = .ok (.getfield 306, 3) := by decide +kernel
theorem dX9_report_53 : decode cX9_report 53 = .ok (.ifCond .ge 7, 3) := by decide +kernel
theorem dX9_report_56 : decode cX9_report 56 = .ok (.iconst 3, 1) := by decide +kernel
theorem dX9_report_57 : decode cX9_report 57 = .ok (.goto 4, 3) := by decide +kernel
theorem dX9_report_60 : decode cX9_report 60 = .ok (.iconst 2, 1) := by decide +kernel
theorem dX9_report_61 : decode cX9_report 61 = .ok (.invokevirtual 335, 3) := by decide +kernel
theorem dX9_report_64 : decode cX9_report 64 = .ok (.aload_n 0, 1) := by decide +kernel
theorem dX9_report_65 : decode cX9_report 65 = .ok (.aload_n 0, 1) := by decide +kernel
theorem dX9_report_66 : decode cX9_report 66 = .ok (.getfield 119, 3) := by decide +kernel
theorem dX9_report_69 : decode cX9_report 69 = .ok (.invokevirtual 338, 3) := by decide +kernel
theorem dX9_report_72 : decode cX9_report 72 = .ok (.aload_n 0, 1) := by decide +kernel
theorem dX9_report_73 : decode cX9_report 73 = .ok (.aload_n 0, 1) := by decide +kernel
theorem dX9_report_74 : decode cX9_report 74 = .ok (.getfield 306, 3) := by decide +kernel
theorem dX9_report_77 : decode cX9_report 77 = .ok (.ifCond .ge 7, 3) := by decide +kernel
theorem dX9_report_80 : decode cX9_report 80 = .ok (.iconst 5, 1) := by decide +kernel
theorem dX9_report_81 : decode cX9_report 81 = .ok (.goto 4, 3) := by decide +kernel
theorem dX9_report_84 : decode cX9_report 84 = .ok (.iconst 4, 1) := by decide +kernel
theorem dX9_report_85 : decode cX9_report 85 = .ok (.invokevirtual 335, 3) := by decide +kernel
theorem dX9_report_88 : decode cX9_report 88 = .ok (.aload_n 0, 1) := by decide +kernel
theorem dX9_report_89 : decode cX9_report 89 = .ok (.aload_n 0, 1) := by decide +kernel
theorem dX9_report_90 : decode cX9_report 90 = .ok (.getfield 306, 3) := by decide +kernel
theorem dX9_report_93 : decode cX9_report 93 = .ok (.ifCond .ge 10, 3) := by decide +kernel
theorem dX9_report_96 : decode cX9_report 96 = .ok (.aload_n 0, 1) := by decide +kernel
theorem dX9_report_97 : decode cX9_report 97 = .ok (.invokevirtual 312, 3) := by decide +kernel
theorem dX9_report_100 : decode cX9_report 100 = .ok (.goto 7, 3) := by decide +kernel
theorem dX9_report_103 : decode cX9_report 103 = .ok (.aload_n 0, 1) := by decide +kernel
theorem dX9_report_104 : decode cX9_report 104 = .ok (.getfield 306, 3) := by decide +kernel
theorem dX9_report_107 : decode cX9_report 107 = .ok (.invokevirtual 338, 3) := by decide +kernel
theorem dX9_report_110 : decode cX9_report 110 = .ok (.aload_n 0, 1) := by decide +kernel
theorem dX9_report_111 : decode cX9_report 111 = .ok (.getfield 316, 3) := by decide +kernel
theorem dX9_report_114 : decode cX9_report 114 = .ok (.ireturn, 1) := by decide +kernel
theorem dX9_said_0 : decode cX9_said 0 = .ok (.aload_n 0, 1) := by decide +kernel
theorem dX9_said_1 : decode cX9_said 1 = .ok (.iconst 0, 1) := by decide +kernel
theorem dX9_said_2 : decode cX9_said 2 = .ok (.putfield 128, 3) := by decide +kernel
theorem dX9_said_5 : decode cX9_said 5 = .ok (.iload_n 1, 1) := by decide +kernel
theorem dX9_said_6 : decode cX9_said 6 = .ok (.ifCond .lt 11, 3) := by decide +kernel
theorem dX9_said_9 : decode cX9_said 9 = .ok (.iload_n 1, 1) := by decide +kernel
theorem dX9_said_10 : decode cX9_said 10 = .ok (.aload_n 0, 1) := by decide +kernel
theorem dX9_said_11 : decode cX9_said 11 = .ok (.getfield 316, 3) := by decide +kernel
theorem dX9_said_14 : decode cX9_said 14 = .ok (.if_icmp .lt 7, 3) := by decide +kernel
theorem dX9_said_17 : decode cX9_said 17 = .ok (.iconst 0, 1) := by decide +kernel
theorem dX9_said_18 : decode cX9_said 18 = .ok (.goto 9, 3) := by decide +kernel
theorem dX9_said_21 : decode cX9_said 21 = .ok (.aload_n 0, 1) := by decide +kernel
theorem dX9_said_22 : decode cX9_said 22 = .ok (.getfield 125, 3) := by decide +kernel
theorem dX9_said_25 : decode cX9_said 25 = .ok (.iload_n 1, 1) := by decide +kernel
theorem dX9_said_26 : decode cX9_said 26 = .ok (.caload, 1) := by decide +kernel
theorem dX9_said_27 : decode cX9_said 27 = .ok (.ireturn, 1) := by decide +kernel

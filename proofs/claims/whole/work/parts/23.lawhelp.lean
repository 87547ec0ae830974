set_option maxRecDepth 100000
theorem dL_compile_0 : decode cL_compile 0 = .ok (.aload_n 1, 1) := by decide +kernel
theorem dL_compile_1 : decode cL_compile 1 = .ok (.iconst 0, 1) := by decide +kernel
theorem dL_compile_2 : decode cL_compile 2 = .ok (.aload_n 0, 1) := by decide +kernel
theorem dL_compile_3 : decode cL_compile 3 = .ok (.invokevirtual 7, 3) := by decide +kernel
theorem dL_compile_6 : decode cL_compile 6 = .ok (.i2l, 1) := by decide +kernel
theorem dL_compile_7 : decode cL_compile 7 = .ok (.lastore, 1) := by decide +kernel
theorem dL_compile_8 : decode cL_compile 8 = .ok (.goto 9, 3) := by decide +kernel
theorem dL_compile_11 : decode cL_compile 11 = .ok (.astore_n 2, 1) := by decide +kernel
theorem dL_compile_12 : decode cL_compile 12 = .ok (.iconst 1, 1) := by decide +kernel
theorem dL_compile_13 : decode cL_compile 13 = .ok (.ireturn, 1) := by decide +kernel
theorem dL_compile_14 : decode cL_compile 14 = .ok (.astore_n 2, 1) := by decide +kernel
theorem dL_compile_15 : decode cL_compile 15 = .ok (.iconst 2, 1) := by decide +kernel
theorem dL_compile_16 : decode cL_compile 16 = .ok (.ireturn, 1) := by decide +kernel
theorem dL_compile_17 : decode cL_compile 17 = .ok (.iconst 0, 1) := by decide +kernel
theorem dL_compile_18 : decode cL_compile 18 = .ok (.ireturn, 1) := by decide +kernel
theorem dL_size_0 : decode cL_size 0 = .ok (.aload_n 2, 1) := by decide +kernel
theorem dL_size_1 : decode cL_size 1 = .ok (.iconst 0, 1) := by decide +kernel
theorem dL_size_2 : decode cL_size 2 = .ok (.aload_n 0, 1) := by decide +kernel
theorem dL_size_3 : decode cL_size 3 = .ok (.iload_n 1, 1) := by decide +kernel
theorem dL_size_4 : decode cL_size 4 = .ok (.invokevirtual 17, 3) := by decide +kernel
theorem dL_size_7 : decode cL_size 7 = .ok (.i2l, 1) := by decide +kernel
theorem dL_size_8 : decode cL_size 8 = .ok (.lastore, 1) := by decide +kernel
theorem dL_size_9 : decode cL_size 9 = .ok (.goto 9, 3) := by decide +kernel
theorem dL_size_12 : decode cL_size 12 = .ok (.astore_n 3, 1) := by decide +kernel
theorem dL_size_13 : decode cL_size 13 = .ok (.iconst 1, 1) := by decide +kernel
theorem dL_size_14 : decode cL_size 14 = .ok (.ireturn, 1) := by decide +kernel
theorem dL_size_15 : decode cL_size 15 = .ok (.astore_n 3, 1) := by decide +kernel
theorem dL_size_16 : decode cL_size 16 = .ok (.iconst 2, 1) := by decide +kernel
theorem dL_size_17 : decode cL_size 17 = .ok (.ireturn, 1) := by decide +kernel
theorem dL_size_18 : decode cL_size 18 = .ok (.iconst 0, 1) := by decide +kernel
theorem dL_size_19 : decode cL_size 19 = .ok (.ireturn, 1) := by decide +kernel
theorem dL_next_0 : decode cL_next 0 = .ok (.aload_n 3, 1) := by decide +kernel
theorem dL_next_1 : decode cL_next 1 = .ok (.iconst 0, 1) := by decide +kernel
theorem dL_next_2 : decode cL_next 2 = .ok (.aload_n 0, 1) := by decide +kernel
theorem dL_next_3 : decode cL_next 3 = .ok (.iload_n 1, 1) := by decide +kernel
theorem dL_next_4 : decode cL_next 4 = .ok (.iload_n 2, 1) := by decide +kernel
theorem dL_next_5 : decode cL_next 5 = .ok (.invokevirtual 23, 3) := by decide +kernel
theorem dL_next_8 : decode cL_next 8 = .ok (.i2l, 1) := by decide +kernel
theorem dL_next_9 : decode cL_next 9 = .ok (.lastore, 1) := by decide +kernel
theorem dL_next_10 : decode cL_next 10 = .ok (.goto 11, 3) := by decide +kernel
theorem dL_next_13 : decode cL_next 13 = .ok (.astore 4, 2) := by decide +kernel
theorem dL_next_15 : decode cL_next 15 = .ok (.iconst 1, 1) := by decide +kernel
theorem dL_next_16 : decode cL_next 16 = .ok (.ireturn, 1) := by decide +kernel
theorem dL_next_17 : decode cL_next 17 = .ok (.astore 4, 2) := by decide +kernel
theorem dL_next_19 : decode cL_next 19 = .ok (.iconst 2, 1) := by decide +kernel
theorem dL_next_20 : decode cL_next 20 = .ok (.ireturn, 1) := by decide +kernel
theorem dL_next_21 : decode cL_next 21 = .ok (.iconst 0, 1) := by decide +kernel
theorem dL_next_22 : decode cL_next 22 = .ok (.ireturn, 1) := by decide +kernel
theorem dL_output_0 : decode cL_output 0 = .ok (.aload 4, 2) := by decide +kernel
theorem dL_output_2 : decode cL_output 2 = .ok (.iconst 0, 1) := by decide +kernel
theorem dL_output_3 : decode cL_output 3 = .ok (.aload_n 0, 1) := by decide +kernel
theorem dL_output_4 : decode cL_output 4 = .ok (.iload_n 1, 1) := by decide +kernel
theorem dL_output_5 : decode cL_output 5 = .ok (.iload_n 2, 1) := by decide +kernel
theorem dL_output_6 : decode cL_output 6 = .ok (.iload_n 3, 1) := by decide +kernel
theorem dL_output_7 : decode cL_output 7 = .ok (.invokevirtual 29, 3) := by decide +kernel
theorem dL_output_10 : decode cL_output 10 = .ok (.ifCond .eq 7, 3) := by decide +kernel
theorem dL_output_13 : decode cL_output 13 = .ok (.lconst 1, 1) := by decide +kernel
theorem dL_output_14 : decode cL_output 14 = .ok (.goto 4, 3) := by decide +kernel
theorem dL_output_17 : decode cL_output 17 = .ok (.lconst 0, 1) := by decide +kernel
theorem dL_output_18 : decode cL_output 18 = .ok (.lastore, 1) := by decide +kernel
theorem dL_output_19 : decode cL_output 19 = .ok (.goto 11, 3) := by decide +kernel
theorem dL_output_22 : decode cL_output 22 = .ok (.astore 5, 2) := by decide +kernel
theorem dL_output_24 : decode cL_output 24 = .ok (.iconst 1, 1) := by decide +kernel
theorem dL_output_25 : decode cL_output 25 = .ok (.ireturn, 1) := by decide +kernel
theorem dL_output_26 : decode cL_output 26 = .ok (.astore 5, 2) := by decide +kernel
theorem dL_output_28 : decode cL_output 28 = .ok (.iconst 2, 1) := by decide +kernel
theorem dL_output_29 : decode cL_output 29 = .ok (.ireturn, 1) := by decide +kernel
theorem dL_output_30 : decode cL_output 30 = .ok (.iconst 0, 1) := by decide +kernel
theorem dL_output_31 : decode cL_output 31 = .ok (.ireturn, 1) := by decide +kernel
theorem dL_begin_0 : decode cL_begin 0 = .ok (.aload_n 1, 1) := by decide +kernel
theorem dL_begin_1 : decode cL_begin 1 = .ok (.iconst 0, 1) := by decide +kernel
theorem dL_begin_2 : decode cL_begin 2 = .ok (.aload_n 0, 1) := by decide +kernel
theorem dL_begin_3 : decode cL_begin 3 = .ok (.invokevirtual 35, 3) := by decide +kernel
theorem dL_begin_6 : decode cL_begin 6 = .ok (.ifCond .eq 7, 3) := by decide +kernel
theorem dL_begin_9 : decode cL_begin 9 = .ok (.lconst 1, 1) := by decide +kernel
theorem dL_begin_10 : decode cL_begin 10 = .ok (.goto 4, 3) := by decide +kernel
theorem dL_begin_13 : decode cL_begin 13 = .ok (.lconst 0, 1) := by decide +kernel
theorem dL_begin_14 : decode cL_begin 14 = .ok (.lastore, 1) := by decide +kernel
theorem dL_begin_15 : decode cL_begin 15 = .ok (.goto 6, 3) := by decide +kernel
theorem dL_begin_18 : decode cL_begin 18 = .ok (.astore_n 2, 1) := by decide +kernel
theorem dL_begin_19 : decode cL_begin 19 = .ok (.iconst 1, 1) := by decide +kernel
theorem dL_begin_20 : decode cL_begin 20 = .ok (.ireturn, 1) := by decide +kernel
theorem dL_begin_21 : decode cL_begin 21 = .ok (.iconst 0, 1) := by decide +kernel
theorem dL_begin_22 : decode cL_begin 22 = .ok (.ireturn, 1) := by decide +kernel
theorem dL_step_0 : decode cL_step 0 = .ok (.aload_n 2, 1) := by decide +kernel
theorem dL_step_1 : decode cL_step 1 = .ok (.iconst 0, 1) := by decide +kernel
theorem dL_step_2 : decode cL_step 2 = .ok (.aload_n 0, 1) := by decide +kernel
theorem dL_step_3 : decode cL_step 3 = .ok (.iload_n 1, 1) := by decide +kernel
theorem dL_step_4 : decode cL_step 4 = .ok (.invokevirtual 39, 3) := by decide +kernel
theorem dL_step_7 : decode cL_step 7 = .ok (.i2l, 1) := by decide +kernel
theorem dL_step_8 : decode cL_step 8 = .ok (.lastore, 1) := by decide +kernel
theorem dL_step_9 : decode cL_step 9 = .ok (.goto 9, 3) := by decide +kernel
theorem dL_step_12 : decode cL_step 12 = .ok (.astore_n 3, 1) := by decide +kernel
theorem dL_step_13 : decode cL_step 13 = .ok (.iconst 1, 1) := by decide +kernel
theorem dL_step_14 : decode cL_step 14 = .ok (.ireturn, 1) := by decide +kernel
theorem dL_step_15 : decode cL_step 15 = .ok (.astore_n 3, 1) := by decide +kernel
theorem dL_step_16 : decode cL_step 16 = .ok (.iconst 2, 1) := by decide +kernel
theorem dL_step_17 : decode cL_step 17 = .ok (.ireturn, 1) := by decide +kernel
theorem dL_step_18 : decode cL_step 18 = .ok (.iconst 0, 1) := by decide +kernel
theorem dL_step_19 : decode cL_step 19 = .ok (.ireturn, 1) := by decide +kernel
theorem dL_loop_0 : decode cL_loop 0 = .ok (.aload_n 2, 1) := by decide +kernel
theorem dL_loop_1 : decode cL_loop 1 = .ok (.iconst 0, 1) := by decide +kernel
theorem dL_loop_2 : decode cL_loop 2 = .ok (.aload_n 0, 1) := by decide +kernel
theorem dL_loop_3 : decode cL_loop 3 = .ok (.iload_n 1, 1) := by decide +kernel
theorem dL_loop_4 : decode cL_loop 4 = .ok (.invokevirtual 42, 3) := by decide +kernel
theorem dL_loop_7 : decode cL_loop 7 = .ok (.ifCond .eq 7, 3) := by decide +kernel
theorem dL_loop_10 : decode cL_loop 10 = .ok (.lconst 1, 1) := by decide +kernel
theorem dL_loop_11 : decode cL_loop 11 = .ok (.goto 4, 3) := by decide +kernel
theorem dL_loop_14 : decode cL_loop 14 = .ok (.lconst 0, 1) := by decide +kernel
theorem dL_loop_15 : decode cL_loop 15 = .ok (.lastore, 1) := by decide +kernel
theorem dL_loop_16 : decode cL_loop 16 = .ok (.goto 9, 3) := by decide +kernel
theorem dL_loop_19 : decode cL_loop 19 = .ok (.astore_n 3, 1) := by decide +kernel
theorem dL_loop_20 : decode cL_loop 20 = .ok (.iconst 1, 1) := by decide +kernel
theorem dL_loop_21 : decode cL_loop 21 = .ok (.ireturn, 1) := by decide +kernel
theorem dL_loop_22 : decode cL_loop 22 = .ok (.astore_n 3, 1) := by decide +kernel
theorem dL_loop_23 : decode cL_loop 23 = .ok (.iconst 2, 1) := by decide +kernel
theorem dL_loop_24 : decode cL_loop 24 = .ok (.ireturn, 1) := by decide +kernel
theorem dL_loop_25 : decode cL_loop 25 = .ok (.iconst 0, 1) := by decide +kernel
theorem dL_loop_26 : decode cL_loop 26 = .ok (.ireturn, 1) := by decide +kernel
theorem dL_law_0 : decode cL_law 0 = .ok (.new 8, 3) := by decide +kernel
theorem dL_law_3 : decode cL_law 3 = .ok (.dup, 1) := by decide +kernel
theorem dL_law_4 : decode cL_law 4 = .ok (.invokespecial 46, 3) := by decide +kernel
theorem dL_law_7 : decode cL_law 7 = .ok (.astore_n 1, 1) := by decide +kernel
theorem dL_law_8 : decode cL_law 8 = .ok (.new 47, 3) := by decide +kernel
theorem dL_law_11 : decode cL_law 11 = .ok (.dup, 1) := by decide +kernel
theorem dL_law_12 : decode cL_law 12 = .ok (.invokespecial 49, 3) := by decide +kernel
theorem dL_law_15 : decode cL_law 15 = .ok (.astore_n 2, 1) := by decide +kernel
theorem dL_law_16 : decode cL_law 16 = .ok (.iconst 1, 1) := by decide +kernel
theorem dL_law_17 : decode cL_law 17 = .ok (.newarray .long, 2) := by decide +kernel
theorem dL_law_19 : decode cL_law 19 = .ok (.astore_n 3, 1) := by decide +kernel
theorem dL_law_20 : decode cL_law 20 = .ok (.iconst 0, 1) := by decide +kernel
theorem dL_law_21 : decode cL_law 21 = .ok (.istore 4, 2) := by decide +kernel
theorem dL_law_23 : decode cL_law 23 = .ok (.iload 4, 2) := by decide +kernel
theorem dL_law_25 : decode cL_law 25 = .ok (.aload_n 0, 1) := by decide +kernel
theorem dL_law_26 : decode cL_law 26 = .ok (.arraylength, 1) := by decide +kernel
theorem dL_law_27 : decode cL_law 27 = .ok (.iconst 4, 1) := by decide +kernel
theorem dL_law_28 : decode cL_law 28 = .ok (.isub, 1) := by decide +kernel
theorem dL_law_29 : decode cL_law 29 = .ok (.if_icmp .gt 655, 3) := by decide +kernel
theorem dL_law_32 : decode cL_law 32 = .ok (.aload_n 0, 1) := by decide +kernel
theorem dL_law_33 : decode cL_law 33 = .ok (.iload 4, 2) := by decide +kernel
theorem dL_law_35 : decode cL_law 35 = .ok (.iaload, 1) := by decide +kernel
theorem dL_law_36 : decode cL_law 36 = .ok (.bipush 15, 2) := by decide +kernel
theorem dL_law_38 : decode cL_law 38 = .ok (.iand, 1) := by decide +kernel
theorem dL_law_39 : decode cL_law 39 = .ok (.tableswitch 639 0 13 #[69, 126, 137, 181, 194, 250, 318, 405, 456, 512, 525, 538, 601, 614], 69) := by decide +kernel
theorem dL_law_108 : decode cL_law 108 = .ok (.aload_n 1, 1) := by decide +kernel
theorem dL_law_109 : decode cL_law 109 = .ok (.aload_n 0, 1) := by decide +kernel
theorem dL_law_110 : decode cL_law 110 = .ok (.iload 4, 2) := by decide +kernel
theorem dL_law_112 : decode cL_law 112 = .ok (.iconst 1, 1) := by decide +kernel
theorem dL_law_113 : decode cL_law 113 = .ok (.iadd, 1) := by decide +kernel
theorem dL_law_114 : decode cL_law 114 = .ok (.iaload, 1) := by decide +kernel
theorem dL_law_115 : decode cL_law 115 = .ok (.i2l, 1) := by decide +kernel
theorem dL_law_116 : decode cL_law 116 = .ok (.bipush 32, 2) := by decide +kernel
theorem dL_law_118 : decode cL_law 118 = .ok (.lshl, 1) := by decide +kernel
theorem dL_law_119 : decode cL_law 119 = .ok (.aload_n 0, 1) := by decide +kernel
theorem dL_law_120 : decode cL_law 120 = .ok (.iload 4, 2) := by decide +kernel
theorem dL_law_122 : decode cL_law 122 = .ok (.iconst 2, 1) := by decide +kernel
theorem dL_law_123 : decode cL_law 123 = .ok (.iadd, 1) := by decide +kernel
theorem dL_law_124 : decode cL_law 124 = .ok (.iaload, 1) := by decide +kernel
theorem dL_law_125 : decode cL_law 125 = .ok (.i2l, 1) := by decide +kernel
theorem dL_law_126 : decode cL_law 126 = .ok (.ldc2_w 50, 3) := by decide +kernel
theorem dL_law_129 : decode cL_law 129 = .ok (.land, 1) := by decide +kernel
theorem dL_law_130 : decode cL_law 130 = .ok (.lor, 1) := by decide +kernel
theorem dL_law_131 : decode cL_law 131 = .ok (.invokevirtual 52, 3) := by decide +kernel
theorem dL_law_134 : decode cL_law 134 = .ok (.aload_n 2, 1) := by decide +kernel
theorem dL_law_135 : decode cL_law 135 = .ok (.aload_n 0, 1) := by decide +kernel
theorem dL_law_136 : decode cL_law 136 = .ok (.iload 4, 2) := by decide +kernel
theorem dL_law_138 : decode cL_law 138 = .ok (.iconst 1, 1) := by decide +kernel
theorem dL_law_139 : decode cL_law 139 = .ok (.iadd, 1) := by decide +kernel
theorem dL_law_140 : decode cL_law 140 = .ok (.iaload, 1) := by decide +kernel
theorem dL_law_141 : decode cL_law 141 = .ok (.i2l, 1) := by decide +kernel
theorem dL_law_142 : decode cL_law 142 = .ok (.bipush 32, 2) := by decide +kernel
theorem dL_law_144 : decode cL_law 144 = .ok (.lshl, 1) := by decide +kernel
theorem dL_law_145 : decode cL_law 145 = .ok (.aload_n 0, 1) := by decide +kernel
theorem dL_law_146 : decode cL_law 146 = .ok (.iload 4, 2) := by decide +kernel
theorem dL_law_148 : decode cL_law 148 = .ok (.iconst 2, 1) := by decide +kernel
theorem dL_law_149 : decode cL_law 149 = .ok (.iadd, 1) := by decide +kernel
theorem dL_law_150 : decode cL_law 150 = .ok (.iaload, 1) := by decide +kernel
theorem dL_law_151 : decode cL_law 151 = .ok (.i2l, 1) := by decide +kernel
theorem dL_law_152 : decode cL_law 152 = .ok (.ldc2_w 50, 3) := by decide +kernel
theorem dL_law_155 : decode cL_law 155 = .ok (.land, 1) := by decide +kernel
theorem dL_law_156 : decode cL_law 156 = .ok (.lor, 1) := by decide +kernel
theorem dL_law_157 : decode cL_law 157 = .ok (.invokevirtual 56, 3) := by decide +kernel
theorem dL_law_160 : decode cL_law 160 = .ok (.if_icmp .eq 518, 3) := by decide +kernel
theorem dL_law_163 : decode cL_law 163 = .ok (.iconst 0, 1) := by decide +kernel
theorem dL_law_164 : decode cL_law 164 = .ok (.ireturn, 1) := by decide +kernel
theorem dL_law_165 : decode cL_law 165 = .ok (.aload_n 1, 1) := by decide +kernel
theorem dL_law_166 : decode cL_law 166 = .ok (.invokevirtual 57, 3) := by decide +kernel
theorem dL_law_169 : decode cL_law 169 = .ok (.aload_n 2, 1) := by decide +kernel
theorem dL_law_170 : decode cL_law 170 = .ok (.invokevirtual 60, 3) := by decide +kernel
theorem dL_law_173 : decode cL_law 173 = .ok (.goto 505, 3) := by decide +kernel
theorem dL_law_176 : decode cL_law 176 = .ok (.aload_n 1, 1) := by decide +kernel
theorem dL_law_177 : decode cL_law 177 = .ok (.aload_n 3, 1) := by decide +kernel
theorem dL_law_178 : decode cL_law 178 = .ok (.invokestatic 61, 3) := by decide +kernel
theorem dL_law_181 : decode cL_law 181 = .ok (.istore 5, 2) := by decide +kernel
theorem dL_law_183 : decode cL_law 183 = .ok (.aload_n 2, 1) := by decide +kernel
theorem dL_law_184 : decode cL_law 184 = .ok (.invokevirtual 66, 3) := by decide +kernel
theorem dL_law_187 : decode cL_law 187 = .ok (.istore 6, 2) := by decide +kernel
theorem dL_law_189 : decode cL_law 189 = .ok (.aload_n 2, 1) := by decide +kernel
theorem dL_law_190 : decode cL_law 190 = .ok (.invokevirtual 67, 3) := by decide +kernel
theorem dL_law_193 : decode cL_law 193 = .ok (.iload 5, 2) := by decide +kernel
theorem dL_law_195 : decode cL_law 195 = .ok (.if_icmp .eq 5, 3) := by decide +kernel
theorem dL_law_198 : decode cL_law 198 = .ok (.iconst 0, 1) := by decide +kernel
theorem dL_law_199 : decode cL_law 199 = .ok (.ireturn, 1) := by decide +kernel
theorem dL_law_200 : decode cL_law 200 = .ok (.iload 5, 2) := by decide +kernel
theorem dL_law_202 : decode cL_law 202 = .ok (.ifCond .ne 15, 3) := by decide +kernel
theorem dL_law_205 : decode cL_law 205 = .ok (.aload_n 3, 1) := by decide +kernel
theorem dL_law_206 : decode cL_law 206 = .ok (.iconst 0, 1) := by decide +kernel
theorem dL_law_207 : decode cL_law 207 = .ok (.laload, 1) := by decide +kernel
theorem dL_law_208 : decode cL_law 208 = .ok (.iload 6, 2) := by decide +kernel
theorem dL_law_210 : decode cL_law 210 = .ok (.i2l, 1) := by decide +kernel
theorem dL_law_211 : decode cL_law 211 = .ok (.lcmp, 1) := by decide +kernel
theorem dL_law_212 : decode cL_law 212 = .ok (.ifCond .eq 5, 3) := by decide +kernel
theorem dL_law_215 : decode cL_law 215 = .ok (.iconst 0, 1) := by decide +kernel
theorem dL_law_216 : decode cL_law 216 = .ok (.ireturn, 1) := by decide +kernel
theorem dL_law_217 : decode cL_law 217 = .ok (.goto 461, 3) := by decide +kernel
theorem dL_law_220 : decode cL_law 220 = .ok (.aload_n 1, 1) := by decide +kernel
theorem dL_law_221 : decode cL_law 221 = .ok (.invokevirtual 70, 3) := by decide +kernel
theorem dL_law_224 : decode cL_law 224 = .ok (.aload_n 2, 1) := by decide +kernel
theorem dL_law_225 : decode cL_law 225 = .ok (.invokevirtual 73, 3) := by decide +kernel
theorem dL_law_228 : decode cL_law 228 = .ok (.if_icmp .eq 450, 3) := by decide +kernel
theorem dL_law_231 : decode cL_law 231 = .ok (.iconst 0, 1) := by decide +kernel
theorem dL_law_232 : decode cL_law 232 = .ok (.ireturn, 1) := by decide +kernel
theorem dL_law_233 : decode cL_law 233 = .ok (.aload_n 1, 1) := by decide +kernel
theorem dL_law_234 : decode cL_law 234 = .ok (.aload_n 0, 1) := by decide +kernel
theorem dL_law_235 : decode cL_law 235 = .ok (.iload 4, 2) := by decide +kernel
theorem dL_law_237 : decode cL_law 237 = .ok (.iconst 1, 1) := by decide +kernel
theorem dL_law_238 : decode cL_law 238 = .ok (.iadd, 1) := by decide +kernel
theorem dL_law_239 : decode cL_law 239 = .ok (.iaload, 1) := by decide +kernel
theorem dL_law_240 : decode cL_law 240 = .ok (.aload_n 3, 1) := by decide +kernel
theorem dL_law_241 : decode cL_law 241 = .ok (.invokestatic 74, 3) := by decide +kernel
theorem dL_law_244 : decode cL_law 244 = .ok (.istore 5, 2) := by decide +kernel
theorem dL_law_246 : decode cL_law 246 = .ok (.aload_n 2, 1) := by decide +kernel
theorem dL_law_247 : decode cL_law 247 = .ok (.aload_n 0, 1) := by decide +kernel
theorem dL_law_248 : decode cL_law 248 = .ok (.iload 4, 2) := by decide +kernel
theorem dL_law_250 : decode cL_law 250 = .ok (.iconst 1, 1) := by decide +kernel
theorem dL_law_251 : decode cL_law 251 = .ok (.iadd, 1) := by decide +kernel
theorem dL_law_252 : decode cL_law 252 = .ok (.iaload, 1) := by decide +kernel
theorem dL_law_253 : decode cL_law 253 = .ok (.invokevirtual 77, 3) := by decide +kernel
theorem dL_law_256 : decode cL_law 256 = .ok (.istore 6, 2) := by decide +kernel
theorem dL_law_258 : decode cL_law 258 = .ok (.aload_n 2, 1) := by decide +kernel
theorem dL_law_259 : decode cL_law 259 = .ok (.invokevirtual 67, 3) := by decide +kernel
theorem dL_law_262 : decode cL_law 262 = .ok (.iload 5, 2) := by decide +kernel
theorem dL_law_264 : decode cL_law 264 = .ok (.if_icmp .eq 5, 3) := by decide +kernel
theorem dL_law_267 : decode cL_law 267 = .ok (.iconst 0, 1) := by decide +kernel
theorem dL_law_268 : decode cL_law 268 = .ok (.ireturn, 1) := by decide +kernel
theorem dL_law_269 : decode cL_law 269 = .ok (.iload 5, 2) := by decide +kernel
theorem dL_law_271 : decode cL_law 271 = .ok (.ifCond .ne 15, 3) := by decide +kernel
theorem dL_law_274 : decode cL_law 274 = .ok (.aload_n 3, 1) := by decide +kernel
theorem dL_law_275 : decode cL_law 275 = .ok (.iconst 0, 1) := by decide +kernel
theorem dL_law_276 : decode cL_law 276 = .ok (.laload, 1) := by decide +kernel
theorem dL_law_277 : decode cL_law 277 = .ok (.iload 6, 2) := by decide +kernel
theorem dL_law_279 : decode cL_law 279 = .ok (.i2l, 1) := by decide +kernel
theorem dL_law_280 : decode cL_law 280 = .ok (.lcmp, 1) := by decide +kernel
theorem dL_law_281 : decode cL_law 281 = .ok (.ifCond .eq 5, 3) := by decide +kernel
theorem dL_law_284 : decode cL_law 284 = .ok (.iconst 0, 1) := by decide +kernel
theorem dL_law_285 : decode cL_law 285 = .ok (.ireturn, 1) := by decide +kernel
theorem dL_law_286 : decode cL_law 286 = .ok (.goto 392, 3) := by decide +kernel
theorem dL_law_289 : decode cL_law 289 = .ok (.aload_n 1, 1) := by decide +kernel
theorem dL_law_290 : decode cL_law 290 = .ok (.aload_n 0, 1) := by decide +kernel
theorem dL_law_291 : decode cL_law 291 = .ok (.iload 4, 2) := by decide +kernel
theorem dL_law_293 : decode cL_law 293 = .ok (.iconst 1, 1) := by decide +kernel
theorem dL_law_294 : decode cL_law 294 = .ok (.iadd, 1) := by decide +kernel
theorem dL_law_295 : decode cL_law 295 = .ok (.iaload, 1) := by decide +kernel
theorem dL_law_296 : decode cL_law 296 = .ok (.aload_n 0, 1) := by decide +kernel
theorem dL_law_297 : decode cL_law 297 = .ok (.iload 4, 2) := by decide +kernel
theorem dL_law_299 : decode cL_law 299 = .ok (.iconst 2, 1) := by decide +kernel
theorem dL_law_300 : decode cL_law 300 = .ok (.iadd, 1) := by decide +kernel
theorem dL_law_301 : decode cL_law 301 = .ok (.iaload, 1) := by decide +kernel
theorem dL_law_302 : decode cL_law 302 = .ok (.aload_n 3, 1) := by decide +kernel
theorem dL_law_303 : decode cL_law 303 = .ok (.invokestatic 78, 3) := by decide +kernel
theorem dL_law_306 : decode cL_law 306 = .ok (.istore 5, 2) := by decide +kernel
theorem dL_law_308 : decode cL_law 308 = .ok (.aload_n 2, 1) := by decide +kernel
theorem dL_law_309 : decode cL_law 309 = .ok (.aload_n 0, 1) := by decide +kernel
theorem dL_law_310 : decode cL_law 310 = .ok (.iload 4, 2) := by decide +kernel
theorem dL_law_312 : decode cL_law 312 = .ok (.iconst 1, 1) := by decide +kernel
theorem dL_law_313 : decode cL_law 313 = .ok (.iadd, 1) := by decide +kernel
theorem dL_law_314 : decode cL_law 314 = .ok (.iaload, 1) := by decide +kernel
theorem dL_law_315 : decode cL_law 315 = .ok (.aload_n 0, 1) := by decide +kernel
theorem dL_law_316 : decode cL_law 316 = .ok (.iload 4, 2) := by decide +kernel
theorem dL_law_318 : decode cL_law 318 = .ok (.iconst 2, 1) := by decide +kernel
theorem dL_law_319 : decode cL_law 319 = .ok (.iadd, 1) := by decide +kernel
theorem dL_law_320 : decode cL_law 320 = .ok (.iaload, 1) := by decide +kernel
theorem dL_law_321 : decode cL_law 321 = .ok (.invokevirtual 81, 3) := by decide +kernel
theorem dL_law_324 : decode cL_law 324 = .ok (.istore 6, 2) := by decide +kernel
theorem dL_law_326 : decode cL_law 326 = .ok (.aload_n 2, 1) := by decide +kernel
theorem dL_law_327 : decode cL_law 327 = .ok (.invokevirtual 67, 3) := by decide +kernel
theorem dL_law_330 : decode cL_law 330 = .ok (.iload 5, 2) := by decide +kernel
theorem dL_law_332 : decode cL_law 332 = .ok (.if_icmp .eq 5, 3) := by decide +kernel
theorem dL_law_335 : decode cL_law 335 = .ok (.iconst 0, 1) := by decide +kernel
theorem dL_law_336 : decode cL_law 336 = .ok (.ireturn, 1) := by decide +kernel
theorem dL_law_337 : decode cL_law 337 = .ok (.iload 5, 2) := by decide +kernel
theorem dL_law_339 : decode cL_law 339 = .ok (.ifCond .ne 15, 3) := by decide +kernel
theorem dL_law_342 : decode cL_law 342 = .ok (.aload_n 3, 1) := by decide +kernel
theorem dL_law_343 : decode cL_law 343 = .ok (.iconst 0, 1) := by decide +kernel
theorem dL_law_344 : decode cL_law 344 = .ok (.laload, 1) := by decide +kernel
theorem dL_law_345 : decode cL_law 345 = .ok (.iload 6, 2) := by decide +kernel
theorem dL_law_347 : decode cL_law 347 = .ok (.i2l, 1) := by decide +kernel
theorem dL_law_348 : decode cL_law 348 = .ok (.lcmp, 1) := by decide +kernel
theorem dL_law_349 : decode cL_law 349 = .ok (.ifCond .eq 5, 3) := by decide +kernel
theorem dL_law_352 : decode cL_law 352 = .ok (.iconst 0, 1) := by decide +kernel
theorem dL_law_353 : decode cL_law 353 = .ok (.ireturn, 1) := by decide +kernel
theorem dL_law_354 : decode cL_law 354 = .ok (.goto 324, 3) := by decide +kernel
theorem dL_law_357 : decode cL_law 357 = .ok (.aload_n 1, 1) := by decide +kernel
theorem dL_law_358 : decode cL_law 358 = .ok (.aload_n 0, 1) := by decide +kernel
theorem dL_law_359 : decode cL_law 359 = .ok (.iload 4, 2) := by decide +kernel
theorem dL_law_361 : decode cL_law 361 = .ok (.iconst 1, 1) := by decide +kernel
theorem dL_law_362 : decode cL_law 362 = .ok (.iadd, 1) := by decide +kernel
theorem dL_law_363 : decode cL_law 363 = .ok (.iaload, 1) := by decide +kernel
theorem dL_law_364 : decode cL_law 364 = .ok (.aload_n 0, 1) := by decide +kernel
theorem dL_law_365 : decode cL_law 365 = .ok (.iload 4, 2) := by decide +kernel
theorem dL_law_367 : decode cL_law 367 = .ok (.iconst 2, 1) := by decide +kernel
theorem dL_law_368 : decode cL_law 368 = .ok (.iadd, 1) := by decide +kernel
theorem dL_law_369 : decode cL_law 369 = .ok (.iaload, 1) := by decide +kernel
theorem dL_law_370 : decode cL_law 370 = .ok (.aload_n 0, 1) := by decide +kernel
theorem dL_law_371 : decode cL_law 371 = .ok (.iload 4, 2) := by decide +kernel
theorem dL_law_373 : decode cL_law 373 = .ok (.iconst 3, 1) := by decide +kernel
theorem dL_law_374 : decode cL_law 374 = .ok (.iadd, 1) := by decide +kernel
theorem dL_law_375 : decode cL_law 375 = .ok (.iaload, 1) := by decide +kernel
theorem dL_law_376 : decode cL_law 376 = .ok (.aload_n 3, 1) := by decide +kernel
theorem dL_law_377 : decode cL_law 377 = .ok (.invokestatic 82, 3) := by decide +kernel
theorem dL_law_380 : decode cL_law 380 = .ok (.istore 5, 2) := by decide +kernel
theorem dL_law_382 : decode cL_law 382 = .ok (.aload_n 2, 1) := by decide +kernel
theorem dL_law_383 : decode cL_law 383 = .ok (.aload_n 0, 1) := by decide +kernel
theorem dL_law_384 : decode cL_law 384 = .ok (.iload 4, 2) := by decide +kernel
theorem dL_law_386 : decode cL_law 386 = .ok (.iconst 1, 1) := by decide +kernel
theorem dL_law_387 : decode cL_law 387 = .ok (.iadd, 1) := by decide +kernel
theorem dL_law_388 : decode cL_law 388 = .ok (.iaload, 1) := by decide +kernel
theorem dL_law_389 : decode cL_law 389 = .ok (.aload_n 0, 1) := by decide +kernel
theorem dL_law_390 : decode cL_law 390 = .ok (.iload 4, 2) := by decide +kernel
theorem dL_law_392 : decode cL_law 392 = .ok (.iconst 2, 1) := by decide +kernel
theorem dL_law_393 : decode cL_law 393 = .ok (.iadd, 1) := by decide +kernel
theorem dL_law_394 : decode cL_law 394 = .ok (.iaload, 1) := by decide +kernel
theorem dL_law_395 : decode cL_law 395 = .ok (.aload_n 0, 1) := by decide +kernel
theorem dL_law_396 : decode cL_law 396 = .ok (.iload 4, 2) := by decide +kernel
theorem dL_law_398 : decode cL_law 398 = .ok (.iconst 3, 1) := by decide +kernel
theorem dL_law_399 : decode cL_law 399 = .ok (.iadd, 1) := by decide +kernel
theorem dL_law_400 : decode cL_law 400 = .ok (.iaload, 1) := by decide +kernel
theorem dL_law_401 : decode cL_law 401 = .ok (.invokevirtual 85, 3) := by decide +kernel
theorem dL_law_404 : decode cL_law 404 = .ok (.istore 6, 2) := by decide +kernel
theorem dL_law_406 : decode cL_law 406 = .ok (.aload_n 2, 1) := by decide +kernel
theorem dL_law_407 : decode cL_law 407 = .ok (.invokevirtual 67, 3) := by decide +kernel
theorem dL_law_410 : decode cL_law 410 = .ok (.iload 5, 2) := by decide +kernel
theorem dL_law_412 : decode cL_law 412 = .ok (.if_icmp .eq 5, 3) := by decide +kernel
theorem dL_law_415 : decode cL_law 415 = .ok (.iconst 0, 1) := by decide +kernel
theorem dL_law_416 : decode cL_law 416 = .ok (.ireturn, 1) := by decide +kernel
theorem dL_law_417 : decode cL_law 417 = .ok (.iload 5, 2) := by decide +kernel
theorem dL_law_419 : decode cL_law 419 = .ok (.ifCond .ne 22, 3) := by decide +kernel
theorem dL_law_422 : decode cL_law 422 = .ok (.aload_n 3, 1) := by decide +kernel
theorem dL_law_423 : decode cL_law 423 = .ok (.iconst 0, 1) := by decide +kernel
theorem dL_law_424 : decode cL_law 424 = .ok (.laload, 1) := by decide +kernel
theorem dL_law_425 : decode cL_law 425 = .ok (.iload 6, 2) := by decide +kernel
theorem dL_law_427 : decode cL_law 427 = .ok (.ifCond .eq 7, 3) := by decide +kernel
theorem dL_law_430 : decode cL_law 430 = .ok (.lconst 1, 1) := by decide +kernel
theorem dL_law_431 : decode cL_law 431 = .ok (.goto 4, 3) := by decide +kernel
theorem dL_law_434 : decode cL_law 434 = .ok (.lconst 0, 1) := by decide +kernel
theorem dL_law_435 : decode cL_law 435 = .ok (.lcmp, 1) := by decide +kernel
theorem dL_law_436 : decode cL_law 436 = .ok (.ifCond .eq 5, 3) := by decide +kernel
theorem dL_law_439 : decode cL_law 439 = .ok (.iconst 0, 1) := by decide +kernel
theorem dL_law_440 : decode cL_law 440 = .ok (.ireturn, 1) := by decide +kernel
theorem dL_law_441 : decode cL_law 441 = .ok (.goto 237, 3) := by decide +kernel
theorem dL_law_444 : decode cL_law 444 = .ok (.aload_n 1, 1) := by decide +kernel
theorem dL_law_445 : decode cL_law 445 = .ok (.aload_n 3, 1) := by decide +kernel
theorem dL_law_446 : decode cL_law 446 = .ok (.invokestatic 86, 3) := by decide +kernel
theorem dL_law_449 : decode cL_law 449 = .ok (.istore 5, 2) := by decide +kernel
theorem dL_law_451 : decode cL_law 451 = .ok (.aload_n 2, 1) := by decide +kernel
theorem dL_law_452 : decode cL_law 452 = .ok (.invokevirtual 88, 3) := by decide +kernel
theorem dL_law_455 : decode cL_law 455 = .ok (.istore 6, 2) := by decide +kernel
theorem dL_law_457 : decode cL_law 457 = .ok (.aload_n 2, 1) := by decide +kernel
theorem dL_law_458 : decode cL_law 458 = .ok (.invokevirtual 67, 3) := by decide +kernel
theorem dL_law_461 : decode cL_law 461 = .ok (.iload 5, 2) := by decide +kernel
theorem dL_law_463 : decode cL_law 463 = .ok (.if_icmp .eq 5, 3) := by decide +kernel
theorem dL_law_466 : decode cL_law 466 = .ok (.iconst 0, 1) := by decide +kernel
theorem dL_law_467 : decode cL_law 467 = .ok (.ireturn, 1) := by decide +kernel
theorem dL_law_468 : decode cL_law 468 = .ok (.iload 5, 2) := by decide +kernel
theorem dL_law_470 : decode cL_law 470 = .ok (.ifCond .ne 22, 3) := by decide +kernel
theorem dL_law_473 : decode cL_law 473 = .ok (.aload_n 3, 1) := by decide +kernel
theorem dL_law_474 : decode cL_law 474 = .ok (.iconst 0, 1) := by decide +kernel
theorem dL_law_475 : decode cL_law 475 = .ok (.laload, 1) := by decide +kernel
theorem dL_law_476 : decode cL_law 476 = .ok (.iload 6, 2) := by decide +kernel
theorem dL_law_478 : decode cL_law 478 = .ok (.ifCond .eq 7, 3) := by decide +kernel
theorem dL_law_481 : decode cL_law 481 = .ok (.lconst 1, 1) := by decide +kernel
theorem dL_law_482 : decode cL_law 482 = .ok (.goto 4, 3) := by decide +kernel
theorem dL_law_485 : decode cL_law 485 = .ok (.lconst 0, 1) := by decide +kernel
theorem dL_law_486 : decode cL_law 486 = .ok (.lcmp, 1) := by decide +kernel
theorem dL_law_487 : decode cL_law 487 = .ok (.ifCond .eq 5, 3) := by decide +kernel
theorem dL_law_490 : decode cL_law 490 = .ok (.iconst 0, 1) := by decide +kernel
theorem dL_law_491 : decode cL_law 491 = .ok (.ireturn, 1) := by decide +kernel
theorem dL_law_492 : decode cL_law 492 = .ok (.goto 186, 3) := by decide +kernel
theorem dL_law_495 : decode cL_law 495 = .ok (.aload_n 1, 1) := by decide +kernel
theorem dL_law_496 : decode cL_law 496 = .ok (.aload_n 0, 1) := by decide +kernel
theorem dL_law_497 : decode cL_law 497 = .ok (.iload 4, 2) := by decide +kernel
theorem dL_law_499 : decode cL_law 499 = .ok (.iconst 1, 1) := by decide +kernel
theorem dL_law_500 : decode cL_law 500 = .ok (.iadd, 1) := by decide +kernel
theorem dL_law_501 : decode cL_law 501 = .ok (.iaload, 1) := by decide +kernel
theorem dL_law_502 : decode cL_law 502 = .ok (.aload_n 3, 1) := by decide +kernel
theorem dL_law_503 : decode cL_law 503 = .ok (.invokestatic 89, 3) := by decide +kernel
theorem dL_law_506 : decode cL_law 506 = .ok (.istore 5, 2) := by decide +kernel
theorem dL_law_508 : decode cL_law 508 = .ok (.aload_n 2, 1) := by decide +kernel
theorem dL_law_509 : decode cL_law 509 = .ok (.aload_n 0, 1) := by decide +kernel
theorem dL_law_510 : decode cL_law 510 = .ok (.iload 4, 2) := by decide +kernel
theorem dL_law_512 : decode cL_law 512 = .ok (.iconst 1, 1) := by decide +kernel
theorem dL_law_513 : decode cL_law 513 = .ok (.iadd, 1) := by decide +kernel
theorem dL_law_514 : decode cL_law 514 = .ok (.iaload, 1) := by decide +kernel
theorem dL_law_515 : decode cL_law 515 = .ok (.invokevirtual 91, 3) := by decide +kernel
theorem dL_law_518 : decode cL_law 518 = .ok (.istore 6, 2) := by decide +kernel
theorem dL_law_520 : decode cL_law 520 = .ok (.aload_n 2, 1) := by decide +kernel
theorem dL_law_521 : decode cL_law 521 = .ok (.invokevirtual 67, 3) := by decide +kernel
theorem dL_law_524 : decode cL_law 524 = .ok (.iload 5, 2) := by decide +kernel
theorem dL_law_526 : decode cL_law 526 = .ok (.if_icmp .eq 5, 3) := by decide +kernel
theorem dL_law_529 : decode cL_law 529 = .ok (.iconst 0, 1) := by decide +kernel
theorem dL_law_530 : decode cL_law 530 = .ok (.ireturn, 1) := by decide +kernel
theorem dL_law_531 : decode cL_law 531 = .ok (.iload 5, 2) := by decide +kernel
theorem dL_law_533 : decode cL_law 533 = .ok (.ifCond .ne 15, 3) := by decide +kernel
theorem dL_law_536 : decode cL_law 536 = .ok (.aload_n 3, 1) := by decide +kernel
theorem dL_law_537 : decode cL_law 537 = .ok (.iconst 0, 1) := by decide +kernel
theorem dL_law_538 : decode cL_law 538 = .ok (.laload, 1) := by decide +kernel
theorem dL_law_539 : decode cL_law 539 = .ok (.iload 6, 2) := by decide +kernel
theorem dL_law_541 : decode cL_law 541 = .ok (.i2l, 1) := by decide +kernel
theorem dL_law_542 : decode cL_law 542 = .ok (.lcmp, 1) := by decide +kernel
theorem dL_law_543 : decode cL_law 543 = .ok (.ifCond .eq 5, 3) := by decide +kernel
theorem dL_law_546 : decode cL_law 546 = .ok (.iconst 0, 1) := by decide +kernel
theorem dL_law_547 : decode cL_law 547 = .ok (.ireturn, 1) := by decide +kernel
theorem dL_law_548 : decode cL_law 548 = .ok (.goto 130, 3) := by decide +kernel
theorem dL_law_551 : decode cL_law 551 = .ok (.aload_n 1, 1) := by decide +kernel
theorem dL_law_552 : decode cL_law 552 = .ok (.invokevirtual 92, 3) := by decide +kernel
theorem dL_law_555 : decode cL_law 555 = .ok (.aload_n 2, 1) := by decide +kernel
theorem dL_law_556 : decode cL_law 556 = .ok (.invokevirtual 95, 3) := by decide +kernel
theorem dL_law_559 : decode cL_law 559 = .ok (.if_icmp .eq 119, 3) := by decide +kernel
theorem dL_law_562 : decode cL_law 562 = .ok (.iconst 0, 1) := by decide +kernel
theorem dL_law_563 : decode cL_law 563 = .ok (.ireturn, 1) := by decide +kernel
theorem dL_law_564 : decode cL_law 564 = .ok (.aload_n 1, 1) := by decide +kernel
theorem dL_law_565 : decode cL_law 565 = .ok (.invokevirtual 96, 3) := by decide +kernel
theorem dL_law_568 : decode cL_law 568 = .ok (.aload_n 2, 1) := by decide +kernel
theorem dL_law_569 : decode cL_law 569 = .ok (.invokevirtual 99, 3) := by decide +kernel
theorem dL_law_572 : decode cL_law 572 = .ok (.if_icmp .eq 106, 3) := by decide +kernel
theorem dL_law_575 : decode cL_law 575 = .ok (.iconst 0, 1) := by decide +kernel
theorem dL_law_576 : decode cL_law 576 = .ok (.ireturn, 1) := by decide +kernel
theorem dL_law_577 : decode cL_law 577 = .ok (.aload_n 1, 1) := by decide +kernel
theorem dL_law_578 : decode cL_law 578 = .ok (.aload_n 0, 1) := by decide +kernel
theorem dL_law_579 : decode cL_law 579 = .ok (.iload 4, 2) := by decide +kernel
theorem dL_law_581 : decode cL_law 581 = .ok (.iconst 1, 1) := by decide +kernel
theorem dL_law_582 : decode cL_law 582 = .ok (.iadd, 1) := by decide +kernel
theorem dL_law_583 : decode cL_law 583 = .ok (.iaload, 1) := by decide +kernel
theorem dL_law_584 : decode cL_law 584 = .ok (.aload_n 3, 1) := by decide +kernel
theorem dL_law_585 : decode cL_law 585 = .ok (.invokestatic 100, 3) := by decide +kernel
theorem dL_law_588 : decode cL_law 588 = .ok (.istore 5, 2) := by decide +kernel
theorem dL_law_590 : decode cL_law 590 = .ok (.aload_n 2, 1) := by decide +kernel
theorem dL_law_591 : decode cL_law 591 = .ok (.aload_n 0, 1) := by decide +kernel
theorem dL_law_592 : decode cL_law 592 = .ok (.iload 4, 2) := by decide +kernel
theorem dL_law_594 : decode cL_law 594 = .ok (.iconst 1, 1) := by decide +kernel
theorem dL_law_595 : decode cL_law 595 = .ok (.iadd, 1) := by decide +kernel
theorem dL_law_596 : decode cL_law 596 = .ok (.iaload, 1) := by decide +kernel
theorem dL_law_597 : decode cL_law 597 = .ok (.invokevirtual 102, 3) := by decide +kernel
theorem dL_law_600 : decode cL_law 600 = .ok (.istore 6, 2) := by decide +kernel
theorem dL_law_602 : decode cL_law 602 = .ok (.aload_n 2, 1) := by decide +kernel
theorem dL_law_603 : decode cL_law 603 = .ok (.invokevirtual 67, 3) := by decide +kernel
theorem dL_law_606 : decode cL_law 606 = .ok (.iload 5, 2) := by decide +kernel
theorem dL_law_608 : decode cL_law 608 = .ok (.if_icmp .eq 5, 3) := by decide +kernel
theorem dL_law_611 : decode cL_law 611 = .ok (.iconst 0, 1) := by decide +kernel
theorem dL_law_612 : decode cL_law 612 = .ok (.ireturn, 1) := by decide +kernel
theorem dL_law_613 : decode cL_law 613 = .ok (.iload 5, 2) := by decide +kernel
theorem dL_law_615 : decode cL_law 615 = .ok (.ifCond .ne 22, 3) := by decide +kernel
theorem dL_law_618 : decode cL_law 618 = .ok (.aload_n 3, 1) := by decide +kernel
theorem dL_law_619 : decode cL_law 619 = .ok (.iconst 0, 1) := by decide +kernel
theorem dL_law_620 : decode cL_law 620 = .ok (.laload, 1) := by decide +kernel
theorem dL_law_621 : decode cL_law 621 = .ok (.iload 6, 2) := by decide +kernel
theorem dL_law_623 : decode cL_law 623 = .ok (.ifCond .eq 7, 3) := by decide +kernel
theorem dL_law_626 : decode cL_law 626 = .ok (.lconst 1, 1) := by decide +kernel
theorem dL_law_627 : decode cL_law 627 = .ok (.goto 4, 3) := by decide +kernel
theorem dL_law_630 : decode cL_law 630 = .ok (.lconst 0, 1) := by decide +kernel
theorem dL_law_631 : decode cL_law 631 = .ok (.lcmp, 1) := by decide +kernel
theorem dL_law_632 : decode cL_law 632 = .ok (.ifCond .eq 5, 3) := by decide +kernel
theorem dL_law_635 : decode cL_law 635 = .ok (.iconst 0, 1) := by decide +kernel
theorem dL_law_636 : decode cL_law 636 = .ok (.ireturn, 1) := by decide +kernel
theorem dL_law_637 : decode cL_law 637 = .ok (.goto 41, 3) := by decide +kernel
theorem dL_law_640 : decode cL_law 640 = .ok (.aload_n 1, 1) := by decide +kernel
theorem dL_law_641 : decode cL_law 641 = .ok (.invokevirtual 103, 3) := by decide +kernel
theorem dL_law_644 : decode cL_law 644 = .ok (.aload_n 2, 1) := by decide +kernel
theorem dL_law_645 : decode cL_law 645 = .ok (.invokevirtual 106, 3) := by decide +kernel
theorem dL_law_648 : decode cL_law 648 = .ok (.if_icmp .eq 30, 3) := by decide +kernel
theorem dL_law_651 : decode cL_law 651 = .ok (.iconst 0, 1) := by decide +kernel
theorem dL_law_652 : decode cL_law 652 = .ok (.ireturn, 1) := by decide +kernel
theorem dL_law_653 : decode cL_law 653 = .ok (.aload_n 1, 1) := by decide +kernel
theorem dL_law_654 : decode cL_law 654 = .ok (.aload_n 0, 1) := by decide +kernel
theorem dL_law_655 : decode cL_law 655 = .ok (.iload 4, 2) := by decide +kernel
theorem dL_law_657 : decode cL_law 657 = .ok (.iconst 1, 1) := by decide +kernel
theorem dL_law_658 : decode cL_law 658 = .ok (.iadd, 1) := by decide +kernel
theorem dL_law_659 : decode cL_law 659 = .ok (.iaload, 1) := by decide +kernel
theorem dL_law_660 : decode cL_law 660 = .ok (.invokevirtual 107, 3) := by decide +kernel
theorem dL_law_663 : decode cL_law 663 = .ok (.aload_n 2, 1) := by decide +kernel
theorem dL_law_664 : decode cL_law 664 = .ok (.aload_n 0, 1) := by decide +kernel
theorem dL_law_665 : decode cL_law 665 = .ok (.iload 4, 2) := by decide +kernel
theorem dL_law_667 : decode cL_law 667 = .ok (.iconst 1, 1) := by decide +kernel
theorem dL_law_668 : decode cL_law 668 = .ok (.iadd, 1) := by decide +kernel
theorem dL_law_669 : decode cL_law 669 = .ok (.iaload, 1) := by decide +kernel
theorem dL_law_670 : decode cL_law 670 = .ok (.invokevirtual 111, 3) := by decide +kernel
theorem dL_law_673 : decode cL_law 673 = .ok (.if_icmp .eq 5, 3) := by decide +kernel
theorem dL_law_676 : decode cL_law 676 = .ok (.iconst 0, 1) := by decide +kernel
theorem dL_law_677 : decode cL_law 677 = .ok (.ireturn, 1) := by decide +kernel
theorem dL_law_678 : decode cL_law 678 = .ok (.iinc 4 4, 3) := by decide +kernel
theorem dL_law_681 : decode cL_law 681 = .ok (.goto (-658), 3) := by decide +kernel
theorem dL_law_684 : decode cL_law 684 = .ok (.iconst 1, 1) := by decide +kernel
theorem dL_law_685 : decode cL_law 685 = .ok (.ireturn, 1) := by decide +kernel
/-- the words that the law's own methods need beside the class's -/
def LW0 : List Cond := [.initialized RL, .initialized RX8, .classLink RL 13 "java/lang/IllegalArgumentException", .classLink RL 15 "java/lang/UnsupportedOperationException", .classLink RL 21 "java/lang/IllegalStateException", .classLink RL 27 "java/util/NoSuchElementException", .classLink RL 33 "java/lang/IndexOutOfBoundsException", .methodLink RL 7 yX8_compile, .instanceMethod yX8_compile, .selects RX8 yX8_compile yX8_compile, .code yX8_compile cX8_compile 1 (some .int), .methodLink RL 17 yX8_size, .instanceMethod yX8_size, .selects RX8 yX8_size yX8_size, .code yX8_size cX8_size 2 (some .int), .methodLink RL 23 yX8_next, .instanceMethod yX8_next, .selects RX8 yX8_next yX8_next, .code yX8_next cX8_next 3 (some .int), .methodLink RL 29 yX8_output, .instanceMethod yX8_output, .selects RX8 yX8_output yX8_output, .code yX8_output cX8_output 4 (some .boolean), .methodLink RL 35 yX8_begin, .instanceMethod yX8_begin, .selects RX8 yX8_begin yX8_begin, .code yX8_begin cX8_begin 1 (some .boolean), .methodLink RL 39 yX8_step, .instanceMethod yX8_step, .selects RX8 yX8_step yX8_step, .code yX8_step cX8_step 2 (some .int), .methodLink RL 42 yX8_loop, .instanceMethod yX8_loop, .selects RX8 yX8_loop yX8_loop, .code yX8_loop cX8_loop 2 (some .boolean)]
abbrev LW : List Cond := LW0 ++ WT
theorem LW0_good : LW0.all goodWord = true := by decide +kernel
theorem LW_good : ∀ w ∈ LW, goodWord w = true := fun w h => (List.mem_append.mp h).elim (List.all_eq_true.mp LW0_good w) (List.all_eq_true.mp goodWT w)
theorem LW0_in : ∀ w ∈ LW0, w ∈ lw_tbl := by decide +kernel
theorem LW_ok {args : Array Value} {s : State} (hts : ∀ w ∈ lw_tbl, w.before args s = true) : ∀ w ∈ LW, w.before args s = true := List.forall_mem_append.mpr ⟨fun w h => hts w (LW0_in w h), WT_ok hts⟩
theorem LW_gd {big : List Cond} {c0 : Cond} {ws : List Cond} (hb : big = c0 :: LW) (h : ∀ w ∈ ws, w ∈ LW0) : GoodIn big (ws ++ WT) := fun w hw => by
  have h1 : w ∈ LW := (List.mem_append.mp hw).elim (fun h2 => List.mem_append_left _ (h w h2)) (fun h2 => List.mem_append_right _ h2)
  exact ⟨by rw [hb]; exact List.mem_cons_of_mem _ h1, good_of_word (LW_good w h1)⟩
/-- which exceptions are which -/
def LC : List Cond := [.castable "java/lang/IllegalArgumentException" "java/lang/IllegalArgumentException", .castable "java/lang/UnsupportedOperationException" "java/lang/UnsupportedOperationException", .castable "java/lang/IllegalStateException" "java/lang/IllegalStateException", .castable "java/util/NoSuchElementException" "java/util/NoSuchElementException", .castable "java/lang/IndexOutOfBoundsException" "java/lang/IndexOutOfBoundsException"]
def LX (U : State) : Prop := (∀ w ∈ LC, va_Nw w U) ∧ va_Nc "java/lang/UnsupportedOperationException" "java/lang/IllegalArgumentException" U ∧ va_Nc "java/lang/IllegalArgumentException" "java/lang/IllegalStateException" U ∧ va_Nc "java/util/NoSuchElementException" "java/lang/IllegalStateException" U ∧ va_Nc "java/lang/IndexOutOfBoundsException" "java/lang/IllegalStateException" U
theorem LC_k : ∀ w ∈ LC, ∃ x1 x2, w = Cond.castable x1 x2 := by
  intro w h
  simp only [LC, List.mem_cons, List.mem_nil_iff, or_false] at h
  rcases h with rfl | rfl | rfl | rfl | rfl <;> exact ⟨_, _, rfl⟩
theorem LX.warm {s U : State} (hW : s.WarmedH U.vm) (h : LX s) : LX U := by
  obtain ⟨h1, h2, h3, h4, h5⟩ := h
  refine ⟨fun w hw => ?_, h2.moved hW.alike, h3.moved hW.alike, h4.moved hW.alike, h5.moved hW.alike⟩
  obtain ⟨x1, x2, rfl⟩ := LC_k w hw
  exact va_Nw.warmC hW (h1 _ hw)
theorem LX.same {s U : State} (h : LX s) (hv : U.vm = s.vm) : LX U := by
  obtain ⟨h1, h2, h3, h4, h5⟩ := h
  have ha : s.vm.Alike U.vm := by rw [hv]; exact Vm.Alike.refl _
  refine ⟨fun w hw => ?_, h2.moved ha, h3.moved ha, h4.moved ha, h5.moved ha⟩
  obtain ⟨x1, x2, rfl⟩ := LC_k w hw
  exact va_Nw.same rfl hv.symm (h1 _ hw)
theorem env_LX {b : Nat} {s : State} (hgv : (Jvm.Cond.and given_1 narrow_1).before #[Value.ref b] s = true) (hts : ∀ w ∈ lw_tbl, w.before #[Value.ref b] s = true) : LX s :=
  ⟨fun w hw => by
    obtain ⟨x1, x2, rfl⟩ := LC_k w hw
    exact va_Nw.of rfl (hts _ ((by decide +kernel : ∀ w ∈ LC, w ∈ lw_tbl) _ hw)), va_Nc.of (fl hgv (w := .not (.castable "java/lang/UnsupportedOperationException" "java/lang/IllegalArgumentException")) (by decide +kernel)), va_Nc.of (fl hgv (w := .not (.castable "java/lang/IllegalArgumentException" "java/lang/IllegalStateException")) (by decide +kernel)), va_Nc.of (fl hgv (w := .not (.castable "java/util/NoSuchElementException" "java/lang/IllegalStateException")) (by decide +kernel)), va_Nc.of (fl hgv (w := .not (.castable "java/lang/IndexOutOfBoundsException" "java/lang/IllegalStateException")) (by decide +kernel))⟩
abbrev oW (cc : Nat → ClassId) (q : Nat) (o : Nat → Int64) : Nat × va_E := (q, .inl (cc 3, 1, .inr (.inl o)))
abbrev H_Pc (st : Nat → Nat) (D : va_G) (a : Nat → Nat) (cc : Nat → ClassId) (av : List Value) (q : Nat) (o : Nat → Int64) (τ : St) (sz : Nat) : Array Value → State → Prop := va_Pc av (fun U => U.heap.size = sz ∧ va_P D vwCl (oW cc q o :: wT a cc τ) U.heap ∧ va_K D vwCl (tyT cc) U ∧ va_D (fun _ => True) (oW cc q o :: wT a cc τ) ∧ TS st (va_A (oW cc q o :: wT a cc τ) sz) U U.heap ∧ LX U)
abbrev H_B (D : va_G) (a : Nat → Nat) (cc : Nat → ClassId) (q : Nat) (A : Nat → Prop) (u : (Nat → Int64) × St) (t : State) : Prop := va_P D vwCl (oW cc q u.1 :: wT a cc u.2) t.heap ∧ va_K D vwCl (tyT cc) t ∧ va_D A (oW cc q u.1 :: wT a cc u.2)
abbrev H_Qi (D : va_G) (a : Nat → Nat) (cc : Nat → ClassId) (q : Nat) (o : Nat → Int64) (τ : St) (sz : Nat) (r : Int32) (o1 : Nat → Int64) (τ1 : St) : Array Value → State → Outcome → State → Prop := va_Qi (fun (r' : Int32) (u : (Nat → Int64) × St) => r' = r ∧ u = (o1, τ1)) (H_B D a cc q (va_A (oW cc q o :: wT a cc τ) sz)) (va_A (oW cc q o :: wT a cc τ) sz)
theorem H_blind {st : Nat → Nat} {D : va_G} {a : Nat → Nat} {cc : Nat → ClassId} {av : List Value} {q : Nat} {o : Nat → Int64} {τ : St} {sz : Nat} : FrameBlind (H_Pc st D a cc av q o τ sz) := fun a' U g mk h => by
  obtain ⟨q0, q1, qP, qK, qD, qT, qX⟩ := h
  exact ⟨q0, q1, qP, va_K.moved (u := U) (U := U.calling g mk a') (Vm.Alike.refl U.vm) qK, qD, TS.same (s := U) (U := U.calling g mk a') qT rfl, LX.same (s := U) (U := U.calling g mk a') qX rfl⟩
def hL (e1 x : Int32) : Int32 := if x = 0 then 0 else if x = e1 then 1 else 2
def oI (o : Nat → Int64) (x v : Int32) : Nat → Int64 := if x = 0 then vp_updL o 0 v.toInt64 else o
def oZ (o : Nat → Int64) (x v : Int32) : Nat → Int64 := if x = 0 then vp_updL o 0 (if v = 0 then 0 else 1) else o
theorem vp_in01 : vp_in 0 1 := inB_in (by decide)
abbrev hhL_compile : List (Nat × Nat × Nat × Nat) := [(0, 8, 11, 13), (0, 8, 14, 15)]
abbrev rmL_compile : Room := { frames := rmX8_compile.frames + 1, cells := 1, slots := 6, locals := 8 + (1 + 11) + rmX8_compile.locals }
set_option maxHeartbeats 4000000 in
theorem kL_compile {l : Launch} (hl0 : l.stackTraces = false) (sz : Nat) {st : Nat → Nat} {D : va_G} {a : Nat → Nat} {cc : Nat → ClassId} {q : Nat} {o : Nat → Int64} {N : Nat} {x v : Int32} {τ τ1 : St} (h : fX8_compile N τ = some (x, v, τ1)) (hxx : x = 0 ∨ x = 1 ∨ x = 2) : Met l yL_compile (Cond.codeWith yL_compile cL_compile 3 (some .int) hhL_compile :: LW) rmL_compile (H_Pc st D a cc [.ref (a 19), .ref q] q o τ sz) (H_Qi D a cc q o τ sz (hL 1 x) (oI o x v) τ1) 1 6 (va_A (oW cc q o :: wT a cc τ) sz) := by
  refine va_MetW (cc := cL_compile) (maxL := 3) (ret := some .int) (hh := hhL_compile) (by decide) rfl ?_
  intro p e s m args below meth c s₁ B hml hv
  obtain ⟨rfl, hsz, hP, hK, hD0, hTS, hLX⟩ := hv
  subst hsz
  have hx := B.exec
  have hb := B.bytes
  have hr := B.returns
  have hlocks := B.notSynchronized
  have hts := atoms_spec (ws := Cond.codeWith yL_compile cL_compile 3 (some .int) hhL_compile :: LW) B.pre
  have hown : s.vm.findClass RL = some m.cls := findClass_of_methodNamed B.named
  have htab : c.exceptionTable.toList = tableOf hhL_compile := vx_table (x := yL_compile) B (hts _ List.mem_cons_self)
  have hlw : ∀ w ∈ LW0, w.before #[.ref (a 19), .ref q] s = true := fun w h => hts w (List.mem_cons_of_mem _ (List.mem_append_left _ h))
  have hl := lv_entry ([.ref (a 19), .ref q]) (n := 3) (Nat.le_of_ble_eq_true rfl)
  rw [lg_entry_eq]
  generalize (lg_sl ([.ref (a 19), .ref q]) ++ List.replicate (3 - (lg_sl ([.ref (a 19), .ref q])).length) Slot.unset).toArray = ls at hl ⊢
  have hD := hD0.self (sz := s.heap.size)
  have hA : ∀ q1, s.heap.size ≤ q1 → va_A (oW cc q o :: wT a cc τ) s.heap.size q1 := fun _ h => Or.inr h
  refine lv_aload_n hx hb dL_compile_0 rfl (lv_at hl 1 rfl) ?_
  refine lv_iconst (v := 0) hx hb dL_compile_1 (by decide) ?_
  refine lv_aload_n hx hb dL_compile_2 rfl (lv_at hl 0 rfl) ?_
  refine L_X (n := 0) (X := [oW cc q o]) (Y := []) (As := []) (rest := [.int 0, .ref q]) ⟨hx, hb, hml, hown, hts⟩ (fun sz => kX8_compile hl0 sz h) (LW_gd rfl (ws := [.methodLink RL 7 yX8_compile, .instanceMethod yX8_compile, .selects RX8 yX8_compile yX8_compile, .initialized RX8, .code yX8_compile cX8_compile 1 (some .int)]) (by decide +kernel)) ⟨rfl, by decide +kernel⟩ hK hTS (by rw [List.append_nil]; exact hP) (by rw [List.append_nil]; exact hD) va_S.rf hA ⟨Nat.le_of_ble_eq_true rfl, Nat.le_of_ble_eq_true rfl⟩ ⟨rfl, rfl⟩ ⟨Nat.le_of_ble_eq_true rfl, Nat.le_of_ble_eq_true rfl⟩ rfl hl.1 rfl (lv_room (Nat.le_of_ble_eq_true rfl)) dL_compile_3 (fun hx0 q9 ce H locs hP hD hS h1 h2 h3 => ?_) (fun hx0 H locs hP hD hS => ?_)
  · rw [List.append_nil] at hP hD
    rcases hxx with rfl | rfl | rfl
    · exact absurd rfl hx0
    · refine vx_catch (E := "java/lang/IllegalArgumentException") (name := "java/lang/IllegalArgumentException") hown [] ⟨0, 8, 11, 13⟩ [⟨0, 8, 14, 15⟩] (by rw [htab]; rfl) (fun z hz => by simp at hz) (by decide) (by decide) (hlw (.classLink RL 13 "java/lang/IllegalArgumentException") (by decide +kernel)) (va_Nw.use rfl (hLX.1 (.castable "java/lang/IllegalArgumentException" "java/lang/IllegalArgumentException") (by decide +kernel))) h1 h2 h3 ?_
      refine lv_astore_n hx hb dL_compile_11 rfl hl (by decide) rfl (fun ls hl => ?_)
      refine lv_iconst (v := 1) hx hb dL_compile_12 (by decide) ?_
      exact W.iret hx hb hr (fun t ht hW => ⟨⟨1, (o, τ1), rfl, ⟨rfl, rfl⟩, by rw [ht]; exact hP, va_K.moved hW.alike hK, hD⟩, hS.F ht⟩) hS.2.2 dL_compile_13
    · refine vx_catch (E := "java/lang/UnsupportedOperationException") (name := "java/lang/UnsupportedOperationException") hown [⟨0, 8, 11, 13⟩] ⟨0, 8, 14, 15⟩ [] (by rw [htab]; rfl) (fun z hz => by
        obtain rfl : z = ⟨0, 8, 11, 13⟩ := by simpa using hz
        exact Or.inr ⟨by decide, _, hlw (.classLink RL 13 "java/lang/IllegalArgumentException") (by decide +kernel), hLX.2.1⟩) (by decide) (by decide) (hlw (.classLink RL 15 "java/lang/UnsupportedOperationException") (by decide +kernel)) (va_Nw.use rfl (hLX.1 (.castable "java/lang/UnsupportedOperationException" "java/lang/UnsupportedOperationException") (by decide +kernel))) h1 h2 h3 ?_
      refine lv_astore_n hx hb dL_compile_14 rfl hl (by decide) rfl (fun ls hl => ?_)
      refine lv_iconst (v := 2) hx hb dL_compile_15 (by decide) ?_
      exact W.iret hx hb hr (fun t ht hW => ⟨⟨2, (o, τ1), rfl, ⟨rfl, rfl⟩, by rw [ht]; exact hP, va_K.moved hW.alike hK, hD⟩, hS.F ht⟩) hS.2.2 dL_compile_16
  · rw [List.append_nil] at hP hD
    subst hx0
    refine lv_i2l hx hb dL_compile_6 rfl ?_
    refine va_last hx hb hK hP hD hS 0 3 rfl rfl vp_in01 dL_compile_7 (fun H locs hP hD hS => ?_)
    refine lv_goto (tgt := 17) hx hb dL_compile_8 (by decide) ?_
    refine lv_iconst (v := 0) hx hb dL_compile_17 (by decide) ?_
    refine W.widen (k := 1) (n := 6) (by omega) (by omega) ?_
    exact W.iret hx hb hr (fun t ht hW => ⟨⟨0, (vp_updL o 0 v.toInt64, τ1), rfl, ⟨rfl, by first | rfl | simp [oZ, *]⟩, by rw [ht]; exact hP, va_K.moved hW.alike hK, hD⟩, hS.F ht⟩) hS.2.2 dL_compile_18
abbrev hhL_size : List (Nat × Nat × Nat × Nat) := [(0, 9, 12, 21), (0, 9, 15, 13)]
abbrev rmL_size : Room := { frames := rmX8_size.frames + 1, cells := 1, slots := 6, locals := 8 + (2 + 11) + rmX8_size.locals }
set_option maxHeartbeats 4000000 in
theorem kL_size {l : Launch} (hl0 : l.stackTraces = false) (sz : Nat) {st : Nat → Nat} {D : va_G} {a : Nat → Nat} {cc : Nat → ClassId} {q : Nat} {o : Nat → Int64} {N : Nat} {x v : Int32} {τ τ1 : St} {p0 : Int32} (h : fX8_size N τ p0 = some (x, v, τ1)) (hxx : x = 0 ∨ x = 3 ∨ x = 1) : Met l yL_size (Cond.codeWith yL_size cL_size 4 (some .int) hhL_size :: LW) rmL_size (H_Pc st D a cc [.ref (a 19), .int p0, .ref q] q o τ sz) (H_Qi D a cc q o τ sz (hL 3 x) (oI o x v) τ1) 1 6 (va_A (oW cc q o :: wT a cc τ) sz) := by
  refine va_MetW (cc := cL_size) (maxL := 4) (ret := some .int) (hh := hhL_size) (by decide) rfl ?_
  intro p e s m args below meth c s₁ B hml hv
  obtain ⟨rfl, hsz, hP, hK, hD0, hTS, hLX⟩ := hv
  subst hsz
  have hx := B.exec
  have hb := B.bytes
  have hr := B.returns
  have hlocks := B.notSynchronized
  have hts := atoms_spec (ws := Cond.codeWith yL_size cL_size 4 (some .int) hhL_size :: LW) B.pre
  have hown : s.vm.findClass RL = some m.cls := findClass_of_methodNamed B.named
  have htab : c.exceptionTable.toList = tableOf hhL_size := vx_table (x := yL_size) B (hts _ List.mem_cons_self)
  have hlw : ∀ w ∈ LW0, w.before #[.ref (a 19), .int p0, .ref q] s = true := fun w h => hts w (List.mem_cons_of_mem _ (List.mem_append_left _ h))
  have hl := lv_entry ([.ref (a 19), .int p0, .ref q]) (n := 4) (Nat.le_of_ble_eq_true rfl)
  rw [lg_entry_eq]
  generalize (lg_sl ([.ref (a 19), .int p0, .ref q]) ++ List.replicate (4 - (lg_sl ([.ref (a 19), .int p0, .ref q])).length) Slot.unset).toArray = ls at hl ⊢
  have hD := hD0.self (sz := s.heap.size)
  have hA : ∀ q1, s.heap.size ≤ q1 → va_A (oW cc q o :: wT a cc τ) s.heap.size q1 := fun _ h => Or.inr h
  refine lv_aload_n hx hb dL_size_0 rfl (lv_at hl 2 rfl) ?_
  refine lv_iconst (v := 0) hx hb dL_size_1 (by decide) ?_
  refine lv_aload_n hx hb dL_size_2 rfl (lv_at hl 0 rfl) ?_
  refine lv_iload_n hx hb dL_size_3 rfl (lv_at hl 1 rfl) ?_
  refine L_X (n := 1) (X := [oW cc q o]) (Y := []) (As := [.int p0]) (rest := [.int 0, .ref q]) ⟨hx, hb, hml, hown, hts⟩ (fun sz => kX8_size hl0 sz h) (LW_gd rfl (ws := [.methodLink RL 17 yX8_size, .instanceMethod yX8_size, .selects RX8 yX8_size yX8_size, .initialized RX8, .code yX8_size cX8_size 2 (some .int)]) (by decide +kernel)) ⟨rfl, by decide +kernel⟩ hK hTS (by rw [List.append_nil]; exact hP) (by rw [List.append_nil]; exact hD) va_S.rf hA ⟨Nat.le_of_ble_eq_true rfl, Nat.le_of_ble_eq_true rfl⟩ ⟨rfl, rfl⟩ ⟨Nat.le_of_ble_eq_true rfl, Nat.le_of_ble_eq_true rfl⟩ rfl hl.1 rfl (lv_room (Nat.le_of_ble_eq_true rfl)) dL_size_4 (fun hx0 q9 ce H locs hP hD hS h1 h2 h3 => ?_) (fun hx0 H locs hP hD hS => ?_)
  · rw [List.append_nil] at hP hD
    rcases hxx with rfl | rfl | rfl
    · exact absurd rfl hx0
    · refine vx_catch (E := "java/lang/IllegalStateException") (name := "java/lang/IllegalStateException") hown [] ⟨0, 9, 12, 21⟩ [⟨0, 9, 15, 13⟩] (by rw [htab]; rfl) (fun z hz => by simp at hz) (by decide) (by decide) (hlw (.classLink RL 21 "java/lang/IllegalStateException") (by decide +kernel)) (va_Nw.use rfl (hLX.1 (.castable "java/lang/IllegalStateException" "java/lang/IllegalStateException") (by decide +kernel))) h1 h2 h3 ?_
      refine lv_astore_n hx hb dL_size_12 rfl hl (by decide) rfl (fun ls hl => ?_)
      refine lv_iconst (v := 1) hx hb dL_size_13 (by decide) ?_
      exact W.iret hx hb hr (fun t ht hW => ⟨⟨1, (o, τ1), rfl, ⟨rfl, rfl⟩, by rw [ht]; exact hP, va_K.moved hW.alike hK, hD⟩, hS.F ht⟩) hS.2.2 dL_size_14
    · refine vx_catch (E := "java/lang/IllegalArgumentException") (name := "java/lang/IllegalArgumentException") hown [⟨0, 9, 12, 21⟩] ⟨0, 9, 15, 13⟩ [] (by rw [htab]; rfl) (fun z hz => by
        obtain rfl : z = ⟨0, 9, 12, 21⟩ := by simpa using hz
        exact Or.inr ⟨by decide, _, hlw (.classLink RL 21 "java/lang/IllegalStateException") (by decide +kernel), hLX.2.2.1⟩) (by decide) (by decide) (hlw (.classLink RL 13 "java/lang/IllegalArgumentException") (by decide +kernel)) (va_Nw.use rfl (hLX.1 (.castable "java/lang/IllegalArgumentException" "java/lang/IllegalArgumentException") (by decide +kernel))) h1 h2 h3 ?_
      refine lv_astore_n hx hb dL_size_15 rfl hl (by decide) rfl (fun ls hl => ?_)
      refine lv_iconst (v := 2) hx hb dL_size_16 (by decide) ?_
      exact W.iret hx hb hr (fun t ht hW => ⟨⟨2, (o, τ1), rfl, ⟨rfl, rfl⟩, by rw [ht]; exact hP, va_K.moved hW.alike hK, hD⟩, hS.F ht⟩) hS.2.2 dL_size_17
  · rw [List.append_nil] at hP hD
    subst hx0
    refine lv_i2l hx hb dL_size_7 rfl ?_
    refine va_last hx hb hK hP hD hS 0 3 rfl rfl vp_in01 dL_size_8 (fun H locs hP hD hS => ?_)
    refine lv_goto (tgt := 18) hx hb dL_size_9 (by decide) ?_
    refine lv_iconst (v := 0) hx hb dL_size_18 (by decide) ?_
    refine W.widen (k := 1) (n := 6) (by omega) (by omega) ?_
    exact W.iret hx hb hr (fun t ht hW => ⟨⟨0, (vp_updL o 0 v.toInt64, τ1), rfl, ⟨rfl, by first | rfl | simp [oZ, *]⟩, by rw [ht]; exact hP, va_K.moved hW.alike hK, hD⟩, hS.F ht⟩) hS.2.2 dL_size_19
abbrev hhL_next : List (Nat × Nat × Nat × Nat) := [(0, 10, 13, 21), (0, 10, 17, 27)]
abbrev rmL_next : Room := { frames := rmX8_next.frames + 1, cells := 1, slots := 6, locals := 8 + (3 + 11) + rmX8_next.locals }
set_option maxHeartbeats 4000000 in
theorem kL_next {l : Launch} (hl0 : l.stackTraces = false) (sz : Nat) {st : Nat → Nat} {D : va_G} {a : Nat → Nat} {cc : Nat → ClassId} {q : Nat} {o : Nat → Int64} {N : Nat} {x v : Int32} {τ τ1 : St} {p0 : Int32} {p1 : Int32} (h : fX8_next N τ p0 p1 = some (x, v, τ1)) (hxx : x = 0 ∨ x = 3 ∨ x = 4) : Met l yL_next (Cond.codeWith yL_next cL_next 5 (some .int) hhL_next :: LW) rmL_next (H_Pc st D a cc [.ref (a 19), .int p0, .int p1, .ref q] q o τ sz) (H_Qi D a cc q o τ sz (hL 3 x) (oI o x v) τ1) 1 6 (va_A (oW cc q o :: wT a cc τ) sz) := by
  refine va_MetW (cc := cL_next) (maxL := 5) (ret := some .int) (hh := hhL_next) (by decide) rfl ?_
  intro p e s m args below meth c s₁ B hml hv
  obtain ⟨rfl, hsz, hP, hK, hD0, hTS, hLX⟩ := hv
  subst hsz
  have hx := B.exec
  have hb := B.bytes
  have hr := B.returns
  have hlocks := B.notSynchronized
  have hts := atoms_spec (ws := Cond.codeWith yL_next cL_next 5 (some .int) hhL_next :: LW) B.pre
  have hown : s.vm.findClass RL = some m.cls := findClass_of_methodNamed B.named
  have htab : c.exceptionTable.toList = tableOf hhL_next := vx_table (x := yL_next) B (hts _ List.mem_cons_self)
  have hlw : ∀ w ∈ LW0, w.before #[.ref (a 19), .int p0, .int p1, .ref q] s = true := fun w h => hts w (List.mem_cons_of_mem _ (List.mem_append_left _ h))
  have hl := lv_entry ([.ref (a 19), .int p0, .int p1, .ref q]) (n := 5) (Nat.le_of_ble_eq_true rfl)
  rw [lg_entry_eq]
  generalize (lg_sl ([.ref (a 19), .int p0, .int p1, .ref q]) ++ List.replicate (5 - (lg_sl ([.ref (a 19), .int p0, .int p1, .ref q])).length) Slot.unset).toArray = ls at hl ⊢
  have hD := hD0.self (sz := s.heap.size)
  have hA : ∀ q1, s.heap.size ≤ q1 → va_A (oW cc q o :: wT a cc τ) s.heap.size q1 := fun _ h => Or.inr h
  refine lv_aload_n hx hb dL_next_0 rfl (lv_at hl 3 rfl) ?_
  refine lv_iconst (v := 0) hx hb dL_next_1 (by decide) ?_
  refine lv_aload_n hx hb dL_next_2 rfl (lv_at hl 0 rfl) ?_
  refine lv_iload_n hx hb dL_next_3 rfl (lv_at hl 1 rfl) ?_
  refine lv_iload_n hx hb dL_next_4 rfl (lv_at hl 2 rfl) ?_
  refine L_X (n := 2) (X := [oW cc q o]) (Y := []) (As := [.int p0, .int p1]) (rest := [.int 0, .ref q]) ⟨hx, hb, hml, hown, hts⟩ (fun sz => kX8_next hl0 sz h) (LW_gd rfl (ws := [.methodLink RL 23 yX8_next, .instanceMethod yX8_next, .selects RX8 yX8_next yX8_next, .initialized RX8, .code yX8_next cX8_next 3 (some .int)]) (by decide +kernel)) ⟨rfl, by decide +kernel⟩ hK hTS (by rw [List.append_nil]; exact hP) (by rw [List.append_nil]; exact hD) va_S.rf hA ⟨Nat.le_of_ble_eq_true rfl, Nat.le_of_ble_eq_true rfl⟩ ⟨rfl, rfl⟩ ⟨Nat.le_of_ble_eq_true rfl, Nat.le_of_ble_eq_true rfl⟩ rfl hl.1 rfl (lv_room (Nat.le_of_ble_eq_true rfl)) dL_next_5 (fun hx0 q9 ce H locs hP hD hS h1 h2 h3 => ?_) (fun hx0 H locs hP hD hS => ?_)
  · rw [List.append_nil] at hP hD
    rcases hxx with rfl | rfl | rfl
    · exact absurd rfl hx0
    · refine vx_catch (E := "java/lang/IllegalStateException") (name := "java/lang/IllegalStateException") hown [] ⟨0, 10, 13, 21⟩ [⟨0, 10, 17, 27⟩] (by rw [htab]; rfl) (fun z hz => by simp at hz) (by decide) (by decide) (hlw (.classLink RL 21 "java/lang/IllegalStateException") (by decide +kernel)) (va_Nw.use rfl (hLX.1 (.castable "java/lang/IllegalStateException" "java/lang/IllegalStateException") (by decide +kernel))) h1 h2 h3 ?_
      refine lv_astore hx hb dL_next_13 hl (by decide) rfl (fun ls hl => ?_)
      refine lv_iconst (v := 1) hx hb dL_next_15 (by decide) ?_
      exact W.iret hx hb hr (fun t ht hW => ⟨⟨1, (o, τ1), rfl, ⟨rfl, rfl⟩, by rw [ht]; exact hP, va_K.moved hW.alike hK, hD⟩, hS.F ht⟩) hS.2.2 dL_next_16
    · refine vx_catch (E := "java/util/NoSuchElementException") (name := "java/util/NoSuchElementException") hown [⟨0, 10, 13, 21⟩] ⟨0, 10, 17, 27⟩ [] (by rw [htab]; rfl) (fun z hz => by
        obtain rfl : z = ⟨0, 10, 13, 21⟩ := by simpa using hz
        exact Or.inr ⟨by decide, _, hlw (.classLink RL 21 "java/lang/IllegalStateException") (by decide +kernel), hLX.2.2.2.1⟩) (by decide) (by decide) (hlw (.classLink RL 27 "java/util/NoSuchElementException") (by decide +kernel)) (va_Nw.use rfl (hLX.1 (.castable "java/util/NoSuchElementException" "java/util/NoSuchElementException") (by decide +kernel))) h1 h2 h3 ?_
      refine lv_astore hx hb dL_next_17 hl (by decide) rfl (fun ls hl => ?_)
      refine lv_iconst (v := 2) hx hb dL_next_19 (by decide) ?_
      exact W.iret hx hb hr (fun t ht hW => ⟨⟨2, (o, τ1), rfl, ⟨rfl, rfl⟩, by rw [ht]; exact hP, va_K.moved hW.alike hK, hD⟩, hS.F ht⟩) hS.2.2 dL_next_20
  · rw [List.append_nil] at hP hD
    subst hx0
    refine lv_i2l hx hb dL_next_8 rfl ?_
    refine va_last hx hb hK hP hD hS 0 3 rfl rfl vp_in01 dL_next_9 (fun H locs hP hD hS => ?_)
    refine lv_goto (tgt := 21) hx hb dL_next_10 (by decide) ?_
    refine lv_iconst (v := 0) hx hb dL_next_21 (by decide) ?_
    refine W.widen (k := 1) (n := 6) (by omega) (by omega) ?_
    exact W.iret hx hb hr (fun t ht hW => ⟨⟨0, (vp_updL o 0 v.toInt64, τ1), rfl, ⟨rfl, by first | rfl | simp [oZ, *]⟩, by rw [ht]; exact hP, va_K.moved hW.alike hK, hD⟩, hS.F ht⟩) hS.2.2 dL_next_22
abbrev hhL_output : List (Nat × Nat × Nat × Nat) := [(0, 19, 22, 21), (0, 19, 26, 33)]
abbrev rmL_output : Room := { frames := rmX8_output.frames + 1, cells := 1, slots := 6, locals := 8 + (4 + 11) + rmX8_output.locals }
set_option maxHeartbeats 4000000 in
theorem kL_output {l : Launch} (hl0 : l.stackTraces = false) (sz : Nat) {st : Nat → Nat} {D : va_G} {a : Nat → Nat} {cc : Nat → ClassId} {q : Nat} {o : Nat → Int64} {N : Nat} {x v : Int32} {τ τ1 : St} {p0 : Int32} {p1 : Int32} {p2 : Int32} (h : fX8_output N τ p0 p1 p2 = some (x, v, τ1)) (hxx : x = 0 ∨ x = 3 ∨ x = 5) : Met l yL_output (Cond.codeWith yL_output cL_output 6 (some .int) hhL_output :: LW) rmL_output (H_Pc st D a cc [.ref (a 19), .int p0, .int p1, .int p2, .ref q] q o τ sz) (H_Qi D a cc q o τ sz (hL 3 x) (oZ o x v) τ1) 1 6 (va_A (oW cc q o :: wT a cc τ) sz) := by
  refine va_MetW (cc := cL_output) (maxL := 6) (ret := some .int) (hh := hhL_output) (by decide) rfl ?_
  intro p e s m args below meth c s₁ B hml hv
  obtain ⟨rfl, hsz, hP, hK, hD0, hTS, hLX⟩ := hv
  subst hsz
  have hx := B.exec
  have hb := B.bytes
  have hr := B.returns
  have hlocks := B.notSynchronized
  have hts := atoms_spec (ws := Cond.codeWith yL_output cL_output 6 (some .int) hhL_output :: LW) B.pre
  have hown : s.vm.findClass RL = some m.cls := findClass_of_methodNamed B.named
  have htab : c.exceptionTable.toList = tableOf hhL_output := vx_table (x := yL_output) B (hts _ List.mem_cons_self)
  have hlw : ∀ w ∈ LW0, w.before #[.ref (a 19), .int p0, .int p1, .int p2, .ref q] s = true := fun w h => hts w (List.mem_cons_of_mem _ (List.mem_append_left _ h))
  have hl := lv_entry ([.ref (a 19), .int p0, .int p1, .int p2, .ref q]) (n := 6) (Nat.le_of_ble_eq_true rfl)
  rw [lg_entry_eq]
  generalize (lg_sl ([.ref (a 19), .int p0, .int p1, .int p2, .ref q]) ++ List.replicate (6 - (lg_sl ([.ref (a 19), .int p0, .int p1, .int p2, .ref q])).length) Slot.unset).toArray = ls at hl ⊢
  have hD := hD0.self (sz := s.heap.size)
  have hA : ∀ q1, s.heap.size ≤ q1 → va_A (oW cc q o :: wT a cc τ) s.heap.size q1 := fun _ h => Or.inr h
  refine lv_aload hx hb dL_output_0 (lv_at hl 4 rfl) ?_
  refine lv_iconst (v := 0) hx hb dL_output_2 (by decide) ?_
  refine lv_aload_n hx hb dL_output_3 rfl (lv_at hl 0 rfl) ?_
  refine lv_iload_n hx hb dL_output_4 rfl (lv_at hl 1 rfl) ?_
  refine lv_iload_n hx hb dL_output_5 rfl (lv_at hl 2 rfl) ?_
  refine lv_iload_n hx hb dL_output_6 rfl (lv_at hl 3 rfl) ?_
  refine L_X (n := 3) (X := [oW cc q o]) (Y := []) (As := [.int p0, .int p1, .int p2]) (rest := [.int 0, .ref q]) ⟨hx, hb, hml, hown, hts⟩ (fun sz => kX8_output hl0 sz h) (LW_gd rfl (ws := [.methodLink RL 29 yX8_output, .instanceMethod yX8_output, .selects RX8 yX8_output yX8_output, .initialized RX8, .code yX8_output cX8_output 4 (some .boolean)]) (by decide +kernel)) ⟨rfl, by decide +kernel⟩ hK hTS (by rw [List.append_nil]; exact hP) (by rw [List.append_nil]; exact hD) va_S.rf hA ⟨Nat.le_of_ble_eq_true rfl, Nat.le_of_ble_eq_true rfl⟩ ⟨rfl, rfl⟩ ⟨Nat.le_of_ble_eq_true rfl, Nat.le_of_ble_eq_true rfl⟩ rfl hl.1 rfl (lv_room (Nat.le_of_ble_eq_true rfl)) dL_output_7 (fun hx0 q9 ce H locs hP hD hS h1 h2 h3 => ?_) (fun hx0 H locs hP hD hS => ?_)
  · rw [List.append_nil] at hP hD
    rcases hxx with rfl | rfl | rfl
    · exact absurd rfl hx0
    · refine vx_catch (E := "java/lang/IllegalStateException") (name := "java/lang/IllegalStateException") hown [] ⟨0, 19, 22, 21⟩ [⟨0, 19, 26, 33⟩] (by rw [htab]; rfl) (fun z hz => by simp at hz) (by decide) (by decide) (hlw (.classLink RL 21 "java/lang/IllegalStateException") (by decide +kernel)) (va_Nw.use rfl (hLX.1 (.castable "java/lang/IllegalStateException" "java/lang/IllegalStateException") (by decide +kernel))) h1 h2 h3 ?_
      refine lv_astore hx hb dL_output_22 hl (by decide) rfl (fun ls hl => ?_)
      refine lv_iconst (v := 1) hx hb dL_output_24 (by decide) ?_
      exact W.iret hx hb hr (fun t ht hW => ⟨⟨1, (o, τ1), rfl, ⟨rfl, rfl⟩, by rw [ht]; exact hP, va_K.moved hW.alike hK, hD⟩, hS.F ht⟩) hS.2.2 dL_output_25
    · refine vx_catch (E := "java/lang/IndexOutOfBoundsException") (name := "java/lang/IndexOutOfBoundsException") hown [⟨0, 19, 22, 21⟩] ⟨0, 19, 26, 33⟩ [] (by rw [htab]; rfl) (fun z hz => by
        obtain rfl : z = ⟨0, 19, 22, 21⟩ := by simpa using hz
        exact Or.inr ⟨by decide, _, hlw (.classLink RL 21 "java/lang/IllegalStateException") (by decide +kernel), hLX.2.2.2.2⟩) (by decide) (by decide) (hlw (.classLink RL 33 "java/lang/IndexOutOfBoundsException") (by decide +kernel)) (va_Nw.use rfl (hLX.1 (.castable "java/lang/IndexOutOfBoundsException" "java/lang/IndexOutOfBoundsException") (by decide +kernel))) h1 h2 h3 ?_
      refine lv_astore hx hb dL_output_26 hl (by decide) rfl (fun ls hl => ?_)
      refine lv_iconst (v := 2) hx hb dL_output_28 (by decide) ?_
      exact W.iret hx hb hr (fun t ht hW => ⟨⟨2, (o, τ1), rfl, ⟨rfl, rfl⟩, by rw [ht]; exact hP, va_K.moved hW.alike hK, hD⟩, hS.F ht⟩) hS.2.2 dL_output_29
  · rw [List.append_nil] at hP hD
    subst hx0
    refine lv_if_eq (tgt := 17) hx hb dL_output_10 (by decide) (fun c1 => ?_) (fun c1 => ?_)
    · refine lv_lconst hx hb dL_output_17 rfl ?_
      refine va_last hx hb hK hP hD hS 0 3 rfl rfl vp_in01 dL_output_18 (fun H locs hP hD hS => ?_)
      refine lv_goto (tgt := 30) hx hb dL_output_19 (by decide) ?_
      refine lv_iconst (v := 0) hx hb dL_output_30 (by decide) ?_
      refine W.widen (k := 1) (n := 6) (by omega) (by omega) ?_
      exact W.iret hx hb hr (fun t ht hW => ⟨⟨0, (vp_updL o 0 0, τ1), rfl, ⟨rfl, by first | rfl | simp [oZ, *]⟩, by rw [ht]; exact hP, va_K.moved hW.alike hK, hD⟩, hS.F ht⟩) hS.2.2 dL_output_31
    · refine lv_lconst hx hb dL_output_13 rfl ?_
      refine lv_goto (tgt := 18) hx hb dL_output_14 (by decide) ?_
      refine va_last hx hb hK hP hD hS 0 3 rfl rfl vp_in01 dL_output_18 (fun H locs hP hD hS => ?_)
      refine lv_goto (tgt := 30) hx hb dL_output_19 (by decide) ?_
      refine lv_iconst (v := 0) hx hb dL_output_30 (by decide) ?_
      refine W.widen (k := 1) (n := 6) (by omega) (by omega) ?_
      exact W.iret hx hb hr (fun t ht hW => ⟨⟨0, (vp_updL o 0 1, τ1), rfl, ⟨rfl, by first | rfl | simp [oZ, *]⟩, by rw [ht]; exact hP, va_K.moved hW.alike hK, hD⟩, hS.F ht⟩) hS.2.2 dL_output_31
abbrev hhL_begin : List (Nat × Nat × Nat × Nat) := [(0, 15, 18, 21)]
abbrev rmL_begin : Room := { frames := rmX8_begin.frames + 1, cells := 1, slots := 6, locals := 8 + (1 + 11) + rmX8_begin.locals }
set_option maxHeartbeats 4000000 in
theorem kL_begin {l : Launch} (hl0 : l.stackTraces = false) (sz : Nat) {st : Nat → Nat} {D : va_G} {a : Nat → Nat} {cc : Nat → ClassId} {q : Nat} {o : Nat → Int64} {N : Nat} {x v : Int32} {τ τ1 : St} (h : fX8_begin N τ = some (x, v, τ1)) (hxx : x = 0 ∨ x = 3) : Met l yL_begin (Cond.codeWith yL_begin cL_begin 3 (some .int) hhL_begin :: LW) rmL_begin (H_Pc st D a cc [.ref (a 19), .ref q] q o τ sz) (H_Qi D a cc q o τ sz (hL 3 x) (oZ o x v) τ1) 1 6 (va_A (oW cc q o :: wT a cc τ) sz) := by
  refine va_MetW (cc := cL_begin) (maxL := 3) (ret := some .int) (hh := hhL_begin) (by decide) rfl ?_
  intro p e s m args below meth c s₁ B hml hv
  obtain ⟨rfl, hsz, hP, hK, hD0, hTS, hLX⟩ := hv
  subst hsz
  have hx := B.exec
  have hb := B.bytes
  have hr := B.returns
  have hlocks := B.notSynchronized
  have hts := atoms_spec (ws := Cond.codeWith yL_begin cL_begin 3 (some .int) hhL_begin :: LW) B.pre
  have hown : s.vm.findClass RL = some m.cls := findClass_of_methodNamed B.named
  have htab : c.exceptionTable.toList = tableOf hhL_begin := vx_table (x := yL_begin) B (hts _ List.mem_cons_self)
  have hlw : ∀ w ∈ LW0, w.before #[.ref (a 19), .ref q] s = true := fun w h => hts w (List.mem_cons_of_mem _ (List.mem_append_left _ h))
  have hl := lv_entry ([.ref (a 19), .ref q]) (n := 3) (Nat.le_of_ble_eq_true rfl)
  rw [lg_entry_eq]
  generalize (lg_sl ([.ref (a 19), .ref q]) ++ List.replicate (3 - (lg_sl ([.ref (a 19), .ref q])).length) Slot.unset).toArray = ls at hl ⊢
  have hD := hD0.self (sz := s.heap.size)
  have hA : ∀ q1, s.heap.size ≤ q1 → va_A (oW cc q o :: wT a cc τ) s.heap.size q1 := fun _ h => Or.inr h
  refine lv_aload_n hx hb dL_begin_0 rfl (lv_at hl 1 rfl) ?_
  refine lv_iconst (v := 0) hx hb dL_begin_1 (by decide) ?_
  refine lv_aload_n hx hb dL_begin_2 rfl (lv_at hl 0 rfl) ?_
  refine L_X (n := 0) (X := [oW cc q o]) (Y := []) (As := []) (rest := [.int 0, .ref q]) ⟨hx, hb, hml, hown, hts⟩ (fun sz => kX8_begin hl0 sz h) (LW_gd rfl (ws := [.methodLink RL 35 yX8_begin, .instanceMethod yX8_begin, .selects RX8 yX8_begin yX8_begin, .initialized RX8, .code yX8_begin cX8_begin 1 (some .boolean)]) (by decide +kernel)) ⟨rfl, by decide +kernel⟩ hK hTS (by rw [List.append_nil]; exact hP) (by rw [List.append_nil]; exact hD) va_S.rf hA ⟨Nat.le_of_ble_eq_true rfl, Nat.le_of_ble_eq_true rfl⟩ ⟨rfl, rfl⟩ ⟨Nat.le_of_ble_eq_true rfl, Nat.le_of_ble_eq_true rfl⟩ rfl hl.1 rfl (lv_room (Nat.le_of_ble_eq_true rfl)) dL_begin_3 (fun hx0 q9 ce H locs hP hD hS h1 h2 h3 => ?_) (fun hx0 H locs hP hD hS => ?_)
  · rw [List.append_nil] at hP hD
    rcases hxx with rfl | rfl
    · exact absurd rfl hx0
    · refine vx_catch (E := "java/lang/IllegalStateException") (name := "java/lang/IllegalStateException") hown [] ⟨0, 15, 18, 21⟩ [] (by rw [htab]; rfl) (fun z hz => by simp at hz) (by decide) (by decide) (hlw (.classLink RL 21 "java/lang/IllegalStateException") (by decide +kernel)) (va_Nw.use rfl (hLX.1 (.castable "java/lang/IllegalStateException" "java/lang/IllegalStateException") (by decide +kernel))) h1 h2 h3 ?_
      refine lv_astore_n hx hb dL_begin_18 rfl hl (by decide) rfl (fun ls hl => ?_)
      refine lv_iconst (v := 1) hx hb dL_begin_19 (by decide) ?_
      exact W.iret hx hb hr (fun t ht hW => ⟨⟨1, (o, τ1), rfl, ⟨rfl, rfl⟩, by rw [ht]; exact hP, va_K.moved hW.alike hK, hD⟩, hS.F ht⟩) hS.2.2 dL_begin_20
  · rw [List.append_nil] at hP hD
    subst hx0
    refine lv_if_eq (tgt := 13) hx hb dL_begin_6 (by decide) (fun c1 => ?_) (fun c1 => ?_)
    · refine lv_lconst hx hb dL_begin_13 rfl ?_
      refine va_last hx hb hK hP hD hS 0 3 rfl rfl vp_in01 dL_begin_14 (fun H locs hP hD hS => ?_)
      refine lv_goto (tgt := 21) hx hb dL_begin_15 (by decide) ?_
      refine lv_iconst (v := 0) hx hb dL_begin_21 (by decide) ?_
      refine W.widen (k := 1) (n := 6) (by omega) (by omega) ?_
      exact W.iret hx hb hr (fun t ht hW => ⟨⟨0, (vp_updL o 0 0, τ1), rfl, ⟨rfl, by first | rfl | simp [oZ, *]⟩, by rw [ht]; exact hP, va_K.moved hW.alike hK, hD⟩, hS.F ht⟩) hS.2.2 dL_begin_22
    · refine lv_lconst hx hb dL_begin_9 rfl ?_
      refine lv_goto (tgt := 14) hx hb dL_begin_10 (by decide) ?_
      refine va_last hx hb hK hP hD hS 0 3 rfl rfl vp_in01 dL_begin_14 (fun H locs hP hD hS => ?_)
      refine lv_goto (tgt := 21) hx hb dL_begin_15 (by decide) ?_
      refine lv_iconst (v := 0) hx hb dL_begin_21 (by decide) ?_
      refine W.widen (k := 1) (n := 6) (by omega) (by omega) ?_
      exact W.iret hx hb hr (fun t ht hW => ⟨⟨0, (vp_updL o 0 1, τ1), rfl, ⟨rfl, by first | rfl | simp [oZ, *]⟩, by rw [ht]; exact hP, va_K.moved hW.alike hK, hD⟩, hS.F ht⟩) hS.2.2 dL_begin_22
abbrev hhL_step : List (Nat × Nat × Nat × Nat) := [(0, 9, 12, 21), (0, 9, 15, 13)]
abbrev rmL_step : Room := { frames := rmX8_step.frames + 1, cells := 1, slots := 6, locals := 8 + (2 + 11) + rmX8_step.locals }
set_option maxHeartbeats 4000000 in
theorem kL_step {l : Launch} (hl0 : l.stackTraces = false) (sz : Nat) {st : Nat → Nat} {D : va_G} {a : Nat → Nat} {cc : Nat → ClassId} {q : Nat} {o : Nat → Int64} {N : Nat} {x v : Int32} {τ τ1 : St} {p0 : Int32} (h : fX8_step N τ p0 = some (x, v, τ1)) (hxx : x = 0 ∨ x = 3 ∨ x = 1) : Met l yL_step (Cond.codeWith yL_step cL_step 4 (some .int) hhL_step :: LW) rmL_step (H_Pc st D a cc [.ref (a 19), .int p0, .ref q] q o τ sz) (H_Qi D a cc q o τ sz (hL 3 x) (oI o x v) τ1) 1 6 (va_A (oW cc q o :: wT a cc τ) sz) := by
  refine va_MetW (cc := cL_step) (maxL := 4) (ret := some .int) (hh := hhL_step) (by decide) rfl ?_
  intro p e s m args below meth c s₁ B hml hv
  obtain ⟨rfl, hsz, hP, hK, hD0, hTS, hLX⟩ := hv
  subst hsz
  have hx := B.exec
  have hb := B.bytes
  have hr := B.returns
  have hlocks := B.notSynchronized
  have hts := atoms_spec (ws := Cond.codeWith yL_step cL_step 4 (some .int) hhL_step :: LW) B.pre
  have hown : s.vm.findClass RL = some m.cls := findClass_of_methodNamed B.named
  have htab : c.exceptionTable.toList = tableOf hhL_step := vx_table (x := yL_step) B (hts _ List.mem_cons_self)
  have hlw : ∀ w ∈ LW0, w.before #[.ref (a 19), .int p0, .ref q] s = true := fun w h => hts w (List.mem_cons_of_mem _ (List.mem_append_left _ h))
  have hl := lv_entry ([.ref (a 19), .int p0, .ref q]) (n := 4) (Nat.le_of_ble_eq_true rfl)
  rw [lg_entry_eq]
  generalize (lg_sl ([.ref (a 19), .int p0, .ref q]) ++ List.replicate (4 - (lg_sl ([.ref (a 19), .int p0, .ref q])).length) Slot.unset).toArray = ls at hl ⊢
  have hD := hD0.self (sz := s.heap.size)
  have hA : ∀ q1, s.heap.size ≤ q1 → va_A (oW cc q o :: wT a cc τ) s.heap.size q1 := fun _ h => Or.inr h
  refine lv_aload_n hx hb dL_step_0 rfl (lv_at hl 2 rfl) ?_
  refine lv_iconst (v := 0) hx hb dL_step_1 (by decide) ?_
  refine lv_aload_n hx hb dL_step_2 rfl (lv_at hl 0 rfl) ?_
  refine lv_iload_n hx hb dL_step_3 rfl (lv_at hl 1 rfl) ?_
  refine L_X (n := 1) (X := [oW cc q o]) (Y := []) (As := [.int p0]) (rest := [.int 0, .ref q]) ⟨hx, hb, hml, hown, hts⟩ (fun sz => kX8_step hl0 sz h) (LW_gd rfl (ws := [.methodLink RL 39 yX8_step, .instanceMethod yX8_step, .selects RX8 yX8_step yX8_step, .initialized RX8, .code yX8_step cX8_step 2 (some .int)]) (by decide +kernel)) ⟨rfl, by decide +kernel⟩ hK hTS (by rw [List.append_nil]; exact hP) (by rw [List.append_nil]; exact hD) va_S.rf hA ⟨Nat.le_of_ble_eq_true rfl, Nat.le_of_ble_eq_true rfl⟩ ⟨rfl, rfl⟩ ⟨Nat.le_of_ble_eq_true rfl, Nat.le_of_ble_eq_true rfl⟩ rfl hl.1 rfl (lv_room (Nat.le_of_ble_eq_true rfl)) dL_step_4 (fun hx0 q9 ce H locs hP hD hS h1 h2 h3 => ?_) (fun hx0 H locs hP hD hS => ?_)
  · rw [List.append_nil] at hP hD
    rcases hxx with rfl | rfl | rfl
    · exact absurd rfl hx0
    · refine vx_catch (E := "java/lang/IllegalStateException") (name := "java/lang/IllegalStateException") hown [] ⟨0, 9, 12, 21⟩ [⟨0, 9, 15, 13⟩] (by rw [htab]; rfl) (fun z hz => by simp at hz) (by decide) (by decide) (hlw (.classLink RL 21 "java/lang/IllegalStateException") (by decide +kernel)) (va_Nw.use rfl (hLX.1 (.castable "java/lang/IllegalStateException" "java/lang/IllegalStateException") (by decide +kernel))) h1 h2 h3 ?_
      refine lv_astore_n hx hb dL_step_12 rfl hl (by decide) rfl (fun ls hl => ?_)
      refine lv_iconst (v := 1) hx hb dL_step_13 (by decide) ?_
      exact W.iret hx hb hr (fun t ht hW => ⟨⟨1, (o, τ1), rfl, ⟨rfl, rfl⟩, by rw [ht]; exact hP, va_K.moved hW.alike hK, hD⟩, hS.F ht⟩) hS.2.2 dL_step_14
    · refine vx_catch (E := "java/lang/IllegalArgumentException") (name := "java/lang/IllegalArgumentException") hown [⟨0, 9, 12, 21⟩] ⟨0, 9, 15, 13⟩ [] (by rw [htab]; rfl) (fun z hz => by
        obtain rfl : z = ⟨0, 9, 12, 21⟩ := by simpa using hz
        exact Or.inr ⟨by decide, _, hlw (.classLink RL 21 "java/lang/IllegalStateException") (by decide +kernel), hLX.2.2.1⟩) (by decide) (by decide) (hlw (.classLink RL 13 "java/lang/IllegalArgumentException") (by decide +kernel)) (va_Nw.use rfl (hLX.1 (.castable "java/lang/IllegalArgumentException" "java/lang/IllegalArgumentException") (by decide +kernel))) h1 h2 h3 ?_
      refine lv_astore_n hx hb dL_step_15 rfl hl (by decide) rfl (fun ls hl => ?_)
      refine lv_iconst (v := 2) hx hb dL_step_16 (by decide) ?_
      exact W.iret hx hb hr (fun t ht hW => ⟨⟨2, (o, τ1), rfl, ⟨rfl, rfl⟩, by rw [ht]; exact hP, va_K.moved hW.alike hK, hD⟩, hS.F ht⟩) hS.2.2 dL_step_17
  · rw [List.append_nil] at hP hD
    subst hx0
    refine lv_i2l hx hb dL_step_7 rfl ?_
    refine va_last hx hb hK hP hD hS 0 3 rfl rfl vp_in01 dL_step_8 (fun H locs hP hD hS => ?_)
    refine lv_goto (tgt := 18) hx hb dL_step_9 (by decide) ?_
    refine lv_iconst (v := 0) hx hb dL_step_18 (by decide) ?_
    refine W.widen (k := 1) (n := 6) (by omega) (by omega) ?_
    exact W.iret hx hb hr (fun t ht hW => ⟨⟨0, (vp_updL o 0 v.toInt64, τ1), rfl, ⟨rfl, by first | rfl | simp [oZ, *]⟩, by rw [ht]; exact hP, va_K.moved hW.alike hK, hD⟩, hS.F ht⟩) hS.2.2 dL_step_19
abbrev hhL_loop : List (Nat × Nat × Nat × Nat) := [(0, 16, 19, 21), (0, 16, 22, 33)]
abbrev rmL_loop : Room := { frames := rmX8_loop.frames + 1, cells := 1, slots := 6, locals := 8 + (2 + 11) + rmX8_loop.locals }
set_option maxHeartbeats 4000000 in
theorem kL_loop {l : Launch} (hl0 : l.stackTraces = false) (sz : Nat) {st : Nat → Nat} {D : va_G} {a : Nat → Nat} {cc : Nat → ClassId} {q : Nat} {o : Nat → Int64} {N : Nat} {x v : Int32} {τ τ1 : St} {p0 : Int32} (h : fX8_loop N τ p0 = some (x, v, τ1)) (hxx : x = 0 ∨ x = 3 ∨ x = 5) : Met l yL_loop (Cond.codeWith yL_loop cL_loop 4 (some .int) hhL_loop :: LW) rmL_loop (H_Pc st D a cc [.ref (a 19), .int p0, .ref q] q o τ sz) (H_Qi D a cc q o τ sz (hL 3 x) (oZ o x v) τ1) 1 6 (va_A (oW cc q o :: wT a cc τ) sz) := by
  refine va_MetW (cc := cL_loop) (maxL := 4) (ret := some .int) (hh := hhL_loop) (by decide) rfl ?_
  intro p e s m args below meth c s₁ B hml hv
  obtain ⟨rfl, hsz, hP, hK, hD0, hTS, hLX⟩ := hv
  subst hsz
  have hx := B.exec
  have hb := B.bytes
  have hr := B.returns
  have hlocks := B.notSynchronized
  have hts := atoms_spec (ws := Cond.codeWith yL_loop cL_loop 4 (some .int) hhL_loop :: LW) B.pre
  have hown : s.vm.findClass RL = some m.cls := findClass_of_methodNamed B.named
  have htab : c.exceptionTable.toList = tableOf hhL_loop := vx_table (x := yL_loop) B (hts _ List.mem_cons_self)
  have hlw : ∀ w ∈ LW0, w.before #[.ref (a 19), .int p0, .ref q] s = true := fun w h => hts w (List.mem_cons_of_mem _ (List.mem_append_left _ h))
  have hl := lv_entry ([.ref (a 19), .int p0, .ref q]) (n := 4) (Nat.le_of_ble_eq_true rfl)
  rw [lg_entry_eq]
  generalize (lg_sl ([.ref (a 19), .int p0, .ref q]) ++ List.replicate (4 - (lg_sl ([.ref (a 19), .int p0, .ref q])).length) Slot.unset).toArray = ls at hl ⊢
  have hD := hD0.self (sz := s.heap.size)
  have hA : ∀ q1, s.heap.size ≤ q1 → va_A (oW cc q o :: wT a cc τ) s.heap.size q1 := fun _ h => Or.inr h
  refine lv_aload_n hx hb dL_loop_0 rfl (lv_at hl 2 rfl) ?_
  refine lv_iconst (v := 0) hx hb dL_loop_1 (by decide) ?_
  refine lv_aload_n hx hb dL_loop_2 rfl (lv_at hl 0 rfl) ?_
  refine lv_iload_n hx hb dL_loop_3 rfl (lv_at hl 1 rfl) ?_
  refine L_X (n := 1) (X := [oW cc q o]) (Y := []) (As := [.int p0]) (rest := [.int 0, .ref q]) ⟨hx, hb, hml, hown, hts⟩ (fun sz => kX8_loop hl0 sz h) (LW_gd rfl (ws := [.methodLink RL 42 yX8_loop, .instanceMethod yX8_loop, .selects RX8 yX8_loop yX8_loop, .initialized RX8, .code yX8_loop cX8_loop 2 (some .boolean)]) (by decide +kernel)) ⟨rfl, by decide +kernel⟩ hK hTS (by rw [List.append_nil]; exact hP) (by rw [List.append_nil]; exact hD) va_S.rf hA ⟨Nat.le_of_ble_eq_true rfl, Nat.le_of_ble_eq_true rfl⟩ ⟨rfl, rfl⟩ ⟨Nat.le_of_ble_eq_true rfl, Nat.le_of_ble_eq_true rfl⟩ rfl hl.1 rfl (lv_room (Nat.le_of_ble_eq_true rfl)) dL_loop_4 (fun hx0 q9 ce H locs hP hD hS h1 h2 h3 => ?_) (fun hx0 H locs hP hD hS => ?_)
  · rw [List.append_nil] at hP hD
    rcases hxx with rfl | rfl | rfl
    · exact absurd rfl hx0
    · refine vx_catch (E := "java/lang/IllegalStateException") (name := "java/lang/IllegalStateException") hown [] ⟨0, 16, 19, 21⟩ [⟨0, 16, 22, 33⟩] (by rw [htab]; rfl) (fun z hz => by simp at hz) (by decide) (by decide) (hlw (.classLink RL 21 "java/lang/IllegalStateException") (by decide +kernel)) (va_Nw.use rfl (hLX.1 (.castable "java/lang/IllegalStateException" "java/lang/IllegalStateException") (by decide +kernel))) h1 h2 h3 ?_
      refine lv_astore_n hx hb dL_loop_19 rfl hl (by decide) rfl (fun ls hl => ?_)
      refine lv_iconst (v := 1) hx hb dL_loop_20 (by decide) ?_
      exact W.iret hx hb hr (fun t ht hW => ⟨⟨1, (o, τ1), rfl, ⟨rfl, rfl⟩, by rw [ht]; exact hP, va_K.moved hW.alike hK, hD⟩, hS.F ht⟩) hS.2.2 dL_loop_21
    · refine vx_catch (E := "java/lang/IndexOutOfBoundsException") (name := "java/lang/IndexOutOfBoundsException") hown [⟨0, 16, 19, 21⟩] ⟨0, 16, 22, 33⟩ [] (by rw [htab]; rfl) (fun z hz => by
        obtain rfl : z = ⟨0, 16, 19, 21⟩ := by simpa using hz
        exact Or.inr ⟨by decide, _, hlw (.classLink RL 21 "java/lang/IllegalStateException") (by decide +kernel), hLX.2.2.2.2⟩) (by decide) (by decide) (hlw (.classLink RL 33 "java/lang/IndexOutOfBoundsException") (by decide +kernel)) (va_Nw.use rfl (hLX.1 (.castable "java/lang/IndexOutOfBoundsException" "java/lang/IndexOutOfBoundsException") (by decide +kernel))) h1 h2 h3 ?_
      refine lv_astore_n hx hb dL_loop_22 rfl hl (by decide) rfl (fun ls hl => ?_)
      refine lv_iconst (v := 2) hx hb dL_loop_23 (by decide) ?_
      exact W.iret hx hb hr (fun t ht hW => ⟨⟨2, (o, τ1), rfl, ⟨rfl, rfl⟩, by rw [ht]; exact hP, va_K.moved hW.alike hK, hD⟩, hS.F ht⟩) hS.2.2 dL_loop_24
  · rw [List.append_nil] at hP hD
    subst hx0
    refine lv_if_eq (tgt := 14) hx hb dL_loop_7 (by decide) (fun c1 => ?_) (fun c1 => ?_)
    · refine lv_lconst hx hb dL_loop_14 rfl ?_
      refine va_last hx hb hK hP hD hS 0 3 rfl rfl vp_in01 dL_loop_15 (fun H locs hP hD hS => ?_)
      refine lv_goto (tgt := 25) hx hb dL_loop_16 (by decide) ?_
      refine lv_iconst (v := 0) hx hb dL_loop_25 (by decide) ?_
      refine W.widen (k := 1) (n := 6) (by omega) (by omega) ?_
      exact W.iret hx hb hr (fun t ht hW => ⟨⟨0, (vp_updL o 0 0, τ1), rfl, ⟨rfl, by first | rfl | simp [oZ, *]⟩, by rw [ht]; exact hP, va_K.moved hW.alike hK, hD⟩, hS.F ht⟩) hS.2.2 dL_loop_26
    · refine lv_lconst hx hb dL_loop_10 rfl ?_
      refine lv_goto (tgt := 15) hx hb dL_loop_11 (by decide) ?_
      refine va_last hx hb hK hP hD hS 0 3 rfl rfl vp_in01 dL_loop_15 (fun H locs hP hD hS => ?_)
      refine lv_goto (tgt := 25) hx hb dL_loop_16 (by decide) ?_
      refine lv_iconst (v := 0) hx hb dL_loop_25 (by decide) ?_
      refine W.widen (k := 1) (n := 6) (by omega) (by omega) ?_
      exact W.iret hx hb hr (fun t ht hW => ⟨⟨0, (vp_updL o 0 1, τ1), rfl, ⟨rfl, by first | rfl | simp [oZ, *]⟩, by rw [ht]; exact hP, va_K.moved hW.alike hK, hD⟩, hS.F ht⟩) hS.2.2 dL_loop_26

theorem dX9_init_0 : decode cX9_init 0 = .ok (.aload_n 0, 1) := by decide +kernel
theorem dX9_init_1 : decode cX9_init 1 = .ok (.invokespecial 1, 3) := by decide +kernel
theorem dX9_init_4 : decode cX9_init 4 = .ok (.aload_n 0, 1) := by decide +kernel
theorem dX9_init_5 : decode cX9_init 5 = .ok (.iconst 4, 1) := by decide +kernel
theorem dX9_init_6 : decode cX9_init 6 = .ok (.newarray .int, 2) := by decide +kernel
theorem dX9_init_8 : decode cX9_init 8 = .ok (.putfield 7, 3) := by decide +kernel
theorem dX9_init_11 : decode cX9_init 11 = .ok (.aload_n 0, 1) := by decide +kernel
theorem dX9_init_12 : decode cX9_init 12 = .ok (.iconst 4, 1) := by decide +kernel
theorem dX9_init_13 : decode cX9_init 13 = .ok (.newarray .int, 2) := by decide +kernel
theorem dX9_init_15 : decode cX9_init 15 = .ok (.putfield 13, 3) := by decide +kernel
theorem dX9_init_18 : decode cX9_init 18 = .ok (.aload_n 0, 1) := by decide +kernel
theorem dX9_init_19 : decode cX9_init 19 = .ok (.sipush 240, 3) := by decide +kernel
theorem dX9_init_22 : decode cX9_init 22 = .ok (.newarray .int, 2) := by decide +kernel
theorem dX9_init_24 : decode cX9_init 24 = .ok (.putfield 16, 3) := by decide +kernel
theorem dX9_init_27 : decode cX9_init 27 = .ok (.aload_n 0, 1) := by decide +kernel
theorem dX9_init_28 : decode cX9_init 28 = .ok (.bipush 60, 2) := by decide +kernel
theorem dX9_init_30 : decode cX9_init 30 = .ok (.newarray .int, 2) := by decide +kernel
theorem dX9_init_32 : decode cX9_init 32 = .ok (.putfield 19, 3) := by decide +kernel
theorem dX9_init_35 : decode cX9_init 35 = .ok (.aload_n 0, 1) := by decide +kernel
theorem dX9_init_36 : decode cX9_init 36 = .ok (.bipush 120, 2) := by decide +kernel
theorem dX9_init_38 : decode cX9_init 38 = .ok (.newarray .int, 2) := by decide +kernel
theorem dX9_init_40 : decode cX9_init 40 = .ok (.putfield 22, 3) := by decide +kernel
theorem dX9_init_43 : decode cX9_init 43 = .ok (.aload_n 0, 1) := by decide +kernel
theorem dX9_init_44 : decode cX9_init 44 = .ok (.iconst 3, 1) := by decide +kernel
theorem dX9_init_45 : decode cX9_init 45 = .ok (.newarray .int, 2) := by decide +kernel
theorem dX9_init_47 : decode cX9_init 47 = .ok (.putfield 25, 3) := by decide +kernel
theorem dX9_init_50 : decode cX9_init 50 = .ok (.aload_n 0, 1) := by decide +kernel
theorem dX9_init_51 : decode cX9_init 51 = .ok (.iconst 3, 1) := by decide +kernel
theorem dX9_init_52 : decode cX9_init 52 = .ok (.newarray .int, 2) := by decide +kernel
theorem dX9_init_54 : decode cX9_init 54 = .ok (.putfield 28, 3) := by decide +kernel
theorem dX9_init_57 : decode cX9_init 57 = .ok (.aload_n 0, 1) := by decide +kernel
theorem dX9_init_58 : decode cX9_init 58 = .ok (.bipush 72, 2) := by decide +kernel
theorem dX9_init_60 : decode cX9_init 60 = .ok (.newarray .int, 2) := by decide +kernel
theorem dX9_init_62 : decode cX9_init 62 = .ok (.putfield 31, 3) := by decide +kernel
theorem dX9_init_65 : decode cX9_init 65 = .ok (.aload_n 0, 1) := by decide +kernel
theorem dX9_init_66 : decode cX9_init 66 = .ok (.iconst 2, 1) := by decide +kernel
theorem dX9_init_67 : decode cX9_init 67 = .ok (.newarray .int, 2) := by decide +kernel
theorem dX9_init_69 : decode cX9_init 69 = .ok (.putfield 34, 3) := by decide +kernel
theorem dX9_init_72 : decode cX9_init 72 = .ok (.aload_n 0, 1) := by decide +kernel
theorem dX9_init_73 : decode cX9_init 73 = .ok (.bipush 8, 2) := by decide +kernel
theorem dX9_init_75 : decode cX9_init 75 = .ok (.newarray .int, 2) := by decide +kernel
theorem dX9_init_77 : decode cX9_init 77 = .ok (.putfield 37, 3) := by decide +kernel
theorem dX9_init_80 : decode cX9_init 80 = .ok (.aload_n 0, 1) := by decide +kernel
theorem dX9_init_81 : decode cX9_init 81 = .ok (.bipush 40, 2) := by decide +kernel
theorem dX9_init_83 : decode cX9_init 83 = .ok (.newarray .int, 2) := by decide +kernel
theorem dX9_init_85 : decode cX9_init 85 = .ok (.putfield 40, 3) := by decide +kernel
theorem dX9_init_88 : decode cX9_init 88 = .ok (.aload_n 0, 1) := by decide +kernel
theorem dX9_init_89 : decode cX9_init 89 = .ok (.bipush 30, 2) := by decide +kernel
theorem dX9_init_91 : decode cX9_init 91 = .ok (.newarray .int, 2) := by decide +kernel
theorem dX9_init_93 : decode cX9_init 93 = .ok (.putfield 43, 3) := by decide +kernel
theorem dX9_init_96 : decode cX9_init 96 = .ok (.aload_n 0, 1) := by decide +kernel
theorem dX9_init_97 : decode cX9_init 97 = .ok (.bipush 120, 2) := by decide +kernel
theorem dX9_init_99 : decode cX9_init 99 = .ok (.newarray .int, 2) := by decide +kernel
theorem dX9_init_101 : decode cX9_init 101 = .ok (.putfield 46, 3) := by decide +kernel
theorem dX9_init_104 : decode cX9_init 104 = .ok (.aload_n 0, 1) := by decide +kernel
theorem dX9_init_105 : decode cX9_init 105 = .ok (.bipush 30, 2) := by decide +kernel
theorem dX9_init_107 : decode cX9_init 107 = .ok (.newarray .int, 2) := by decide +kernel
theorem dX9_init_109 : decode cX9_init 109 = .ok (.putfield 49, 3) := by decide +kernel
theorem dX9_init_112 : decode cX9_init 112 = .ok (.aload_n 0, 1) := by decide +kernel
theorem dX9_init_113 : decode cX9_init 113 = .ok (.bipush 48, 2) := by decide +kernel
theorem dX9_init_115 : decode cX9_init 115 = .ok (.newarray .int, 2) := by decide +kernel
theorem dX9_init_117 : decode cX9_init 117 = .ok (.putfield 52, 3) := by decide +kernel
theorem dX9_init_120 : decode cX9_init 120 = .ok (.aload_n 0, 1) := by decide +kernel
theorem dX9_init_121 : decode cX9_init 121 = .ok (.bipush 8, 2) := by decide +kernel
theorem dX9_init_123 : decode cX9_init 123 = .ok (.newarray .int, 2) := by decide +kernel
theorem dX9_init_125 : decode cX9_init 125 = .ok (.putfield 55, 3) := by decide +kernel
theorem dX9_init_128 : decode cX9_init 128 = .ok (.aload_n 0, 1) := by decide +kernel
theorem dX9_init_129 : decode cX9_init 129 = .ok (.iconst 4, 1) := by decide +kernel
theorem dX9_init_130 : decode cX9_init 130 = .ok (.newarray .int, 2) := by decide +kernel
theorem dX9_init_132 : decode cX9_init 132 = .ok (.putfield 58, 3) := by decide +kernel
theorem dX9_init_135 : decode cX9_init 135 = .ok (.aload_n 0, 1) := by decide +kernel
theorem dX9_init_136 : decode cX9_init 136 = .ok (.bipush 8, 2) := by decide +kernel
theorem dX9_init_138 : decode cX9_init 138 = .ok (.newarray .int, 2) := by decide +kernel
theorem dX9_init_140 : decode cX9_init 140 = .ok (.putfield 61, 3) := by decide +kernel
theorem dX9_init_143 : decode cX9_init 143 = .ok (.aload_n 0, 1) := by decide +kernel
theorem dX9_init_144 : decode cX9_init 144 = .ok (.iconst 2, 1) := by decide +kernel
theorem dX9_init_145 : decode cX9_init 145 = .ok (.newarray .int, 2) := by decide +kernel
theorem dX9_init_147 : decode cX9_init 147 = .ok (.putfield 64, 3) := by decide +kernel
theorem dX9_init_150 : decode cX9_init 150 = .ok (.aload_n 0, 1) := by decide +kernel
theorem dX9_init_151 : decode cX9_init 151 = .ok (.bipush 6, 2) := by decide +kernel
theorem dX9_init_153 : decode cX9_init 153 = .ok (.newarray .int, 2) := by decide +kernel
theorem dX9_init_155 : decode cX9_init 155 = .ok (.putfield 67, 3) := by decide +kernel
theorem dX9_init_158 : decode cX9_init 158 = .ok (.aload_n 0, 1) := by decide +kernel
theorem dX9_init_159 : decode cX9_init 159 = .ok (.bipush 6, 2) := by decide +kernel
theorem dX9_init_161 : decode cX9_init 161 = .ok (.newarray .long, 2) := by decide +kernel
theorem dX9_init_163 : decode cX9_init 163 = .ok (.putfield 70, 3) := by decide +kernel
theorem dX9_init_166 : decode cX9_init 166 = .ok (.aload_n 0, 1) := by decide +kernel
theorem dX9_init_167 : decode cX9_init 167 = .ok (.bipush 6, 2) := by decide +kernel
theorem dX9_init_169 : decode cX9_init 169 = .ok (.newarray .long, 2) := by decide +kernel
theorem dX9_init_171 : decode cX9_init 171 = .ok (.putfield 74, 3) := by decide +kernel
theorem dX9_init_174 : decode cX9_init 174 = .ok (.aload_n 0, 1) := by decide +kernel
theorem dX9_init_175 : decode cX9_init 175 = .ok (.bipush 32, 2) := by decide +kernel
theorem dX9_init_177 : decode cX9_init 177 = .ok (.newarray .int, 2) := by decide +kernel
theorem dX9_init_179 : decode cX9_init 179 = .ok (.putfield 77, 3) := by decide +kernel
theorem dX9_init_182 : decode cX9_init 182 = .ok (.aload_n 0, 1) := by decide +kernel
theorem dX9_init_183 : decode cX9_init 183 = .ok (.iconst 4, 1) := by decide +kernel
theorem dX9_init_184 : decode cX9_init 184 = .ok (.newarray .int, 2) := by decide +kernel
theorem dX9_init_186 : decode cX9_init 186 = .ok (.putfield 80, 3) := by decide +kernel
theorem dX9_init_189 : decode cX9_init 189 = .ok (.aload_n 0, 1) := by decide +kernel
theorem dX9_init_190 : decode cX9_init 190 = .ok (.bipush 18, 2) := by decide +kernel
theorem dX9_init_192 : decode cX9_init 192 = .ok (.newarray .int, 2) := by decide +kernel
theorem dX9_init_194 : decode cX9_init 194 = .ok (.putfield 83, 3) := by decide +kernel
theorem dX9_init_197 : decode cX9_init 197 = .ok (.iconst 0, 1) := by decide +kernel
theorem dX9_init_198 : decode cX9_init 198 = .ok (.istore_n 1, 1) := by decide +kernel
theorem dX9_init_199 : decode cX9_init 199 = .ok (.iload_n 1, 1) := by decide +kernel
theorem dX9_init_200 : decode cX9_init 200 = .ok (.iconst 4, 1) := by decide +kernel
theorem dX9_init_201 : decode cX9_init 201 = .ok (.if_icmp .ge 16, 3) := by decide +kernel
theorem dX9_init_204 : decode cX9_init 204 = .ok (.aload_n 0, 1) := by decide +kernel
theorem dX9_init_205 : decode cX9_init 205 = .ok (.getfield 7, 3) := by decide +kernel
theorem dX9_init_208 : decode cX9_init 208 = .ok (.iload_n 1, 1) := by decide +kernel
theorem dX9_init_209 : decode cX9_init 209 = .ok (.iconst (-1), 1) := by decide +kernel
theorem dX9_init_210 : decode cX9_init 210 = .ok (.iastore, 1) := by decide +kernel
theorem dX9_init_211 : decode cX9_init 211 = .ok (.iinc 1 1, 3) := by decide +kernel
theorem dX9_init_214 : decode cX9_init 214 = .ok (.goto (-15), 3) := by decide +kernel
theorem dX9_init_217 : decode cX9_init 217 = .ok (.iconst 0, 1) := by decide +kernel
theorem dX9_init_218 : decode cX9_init 218 = .ok (.istore_n 1, 1) := by decide +kernel
theorem dX9_init_219 : decode cX9_init 219 = .ok (.iload_n 1, 1) := by decide +kernel
theorem dX9_init_220 : decode cX9_init 220 = .ok (.bipush 8, 2) := by decide +kernel
theorem dX9_init_222 : decode cX9_init 222 = .ok (.if_icmp .ge 17, 3) := by decide +kernel
theorem dX9_init_225 : decode cX9_init 225 = .ok (.aload_n 0, 1) := by decide +kernel
theorem dX9_init_226 : decode cX9_init 226 = .ok (.getfield 37, 3) := by decide +kernel
theorem dX9_init_229 : decode cX9_init 229 = .ok (.iload_n 1, 1) := by decide +kernel
theorem dX9_init_230 : decode cX9_init 230 = .ok (.bipush 100, 2) := by decide +kernel
theorem dX9_init_232 : decode cX9_init 232 = .ok (.iastore, 1) := by decide +kernel
theorem dX9_init_233 : decode cX9_init 233 = .ok (.iinc 1 1, 3) := by decide +kernel
theorem dX9_init_236 : decode cX9_init 236 = .ok (.goto (-17), 3) := by decide +kernel
theorem dX9_init_239 : decode cX9_init 239 = .ok (.iconst 0, 1) := by decide +kernel
theorem dX9_init_240 : decode cX9_init 240 = .ok (.istore_n 1, 1) := by decide +kernel
theorem dX9_init_241 : decode cX9_init 241 = .ok (.iload_n 1, 1) := by decide +kernel
theorem dX9_init_242 : decode cX9_init 242 = .ok (.bipush 32, 2) := by decide +kernel
theorem dX9_init_244 : decode cX9_init 244 = .ok (.if_icmp .ge 16, 3) := by decide +kernel
theorem dX9_init_247 : decode cX9_init 247 = .ok (.aload_n 0, 1) := by decide +kernel
theorem dX9_init_248 : decode cX9_init 248 = .ok (.getfield 77, 3) := by decide +kernel
theorem dX9_init_251 : decode cX9_init 251 = .ok (.iload_n 1, 1) := by decide +kernel
theorem dX9_init_252 : decode cX9_init 252 = .ok (.iconst 1, 1) := by decide +kernel
theorem dX9_init_253 : decode cX9_init 253 = .ok (.iastore, 1) := by decide +kernel
theorem dX9_init_254 : decode cX9_init 254 = .ok (.iinc 1 1, 3) := by decide +kernel
theorem dX9_init_257 : decode cX9_init 257 = .ok (.goto (-16), 3) := by decide +kernel
theorem dX9_init_260 : decode cX9_init 260 = .ok (.return_, 1) := by decide +kernel
theorem dX9_in_0 : decode cX9_in 0 = .ok (.lload_n 0, 1) := by decide +kernel
theorem dX9_in_1 : decode cX9_in 1 = .ok (.lload_n 2, 1) := by decide +kernel
theorem dX9_in_2 : decode cX9_in 2 = .ok (.lcmp, 1) := by decide +kernel
theorem dX9_in_3 : decode cX9_in 3 = .ok (.ifCond .lt 14, 3) := by decide +kernel
theorem dX9_in_6 : decode cX9_in 6 = .ok (.lload_n 0, 1) := by decide +kernel
theorem dX9_in_7 : decode cX9_in 7 = .ok (.lload 4, 2) := by decide +kernel
theorem dX9_in_9 : decode cX9_in 9 = .ok (.lcmp, 1) := by decide +kernel
theorem dX9_in_10 : decode cX9_in 10 = .ok (.ifCond .gt 7, 3) := by decide +kernel
theorem dX9_in_13 : decode cX9_in 13 = .ok (.iconst 1, 1) := by decide +kernel
theorem dX9_in_14 : decode cX9_in 14 = .ok (.goto 4, 3) := by decide +kernel
theorem dX9_in_17 : decode cX9_in 17 = .ok (.iconst 0, 1) := by decide +kernel
theorem dX9_in_18 : decode cX9_in 18 = .ok (.ireturn, 1) := by decide +kernel
theorem dX9_no_0 : decode cX9_no 0 = .ok (.ldc2_w 86, 3) := by decide +kernel
theorem dX9_no_3 : decode cX9_no 3 = .ok (.iload_n 0, 1) := by decide +kernel
theorem dX9_no_4 : decode cX9_no 4 = .ok (.i2l, 1) := by decide +kernel
theorem dX9_no_5 : decode cX9_no 5 = .ok (.lsub, 1) := by decide +kernel
theorem dX9_no_6 : decode cX9_no 6 = .ok (.lreturn, 1) := by decide +kernel
theorem dX9_isTwo_0 : decode cX9_isTwo 0 = .ok (.iload_n 0, 1) := by decide +kernel
theorem dX9_isTwo_1 : decode cX9_isTwo 1 = .ok (.i2l, 1) := by decide +kernel
theorem dX9_isTwo_2 : decode cX9_isTwo 2 = .ok (.lconst 0, 1) := by decide +kernel
theorem dX9_isTwo_3 : decode cX9_isTwo 3 = .ok (.lconst 1, 1) := by decide +kernel
theorem dX9_isTwo_4 : decode cX9_isTwo 4 = .ok (.invokestatic 88, 3) := by decide +kernel
theorem dX9_isTwo_7 : decode cX9_isTwo 7 = .ok (.ireturn, 1) := by decide +kernel
theorem dX9_isIn_0 : decode cX9_isIn 0 = .ok (.iload_n 0, 1) := by decide +kernel
theorem dX9_isIn_1 : decode cX9_isIn 1 = .ok (.iload_n 1, 1) := by decide +kernel
theorem dX9_isIn_2 : decode cX9_isIn 2 = .ok (.ishr, 1) := by decide +kernel
theorem dX9_isIn_3 : decode cX9_isIn 3 = .ok (.iconst 1, 1) := by decide +kernel
theorem dX9_isIn_4 : decode cX9_isIn 4 = .ok (.iand, 1) := by decide +kernel
theorem dX9_isIn_5 : decode cX9_isIn 5 = .ok (.iconst 1, 1) := by decide +kernel
theorem dX9_isIn_6 : decode cX9_isIn 6 = .ok (.if_icmp .ne 7, 3) := by decide +kernel
theorem dX9_isIn_9 : decode cX9_isIn 9 = .ok (.iconst 1, 1) := by decide +kernel
theorem dX9_isIn_10 : decode cX9_isIn 10 = .ok (.goto 4, 3) := by decide +kernel
theorem dX9_isIn_13 : decode cX9_isIn 13 = .ok (.iconst 0, 1) := by decide +kernel
theorem dX9_isIn_14 : decode cX9_isIn 14 = .ok (.ireturn, 1) := by decide +kernel
theorem dX9_ones_0 : decode cX9_ones 0 = .ok (.iconst 0, 1) := by decide +kernel
theorem dX9_ones_1 : decode cX9_ones 1 = .ok (.istore_n 1, 1) := by decide +kernel
theorem dX9_ones_2 : decode cX9_ones 2 = .ok (.iload_n 0, 1) := by decide +kernel
theorem dX9_ones_3 : decode cX9_ones 3 = .ok (.istore_n 2, 1) := by decide +kernel
theorem dX9_ones_4 : decode cX9_ones 4 = .ok (.iload_n 2, 1) := by decide +kernel
theorem dX9_ones_5 : decode cX9_ones 5 = .ok (.ifCond .eq 15, 3) := by decide +kernel
theorem dX9_ones_8 : decode cX9_ones 8 = .ok (.iinc 1 1, 3) := by decide +kernel
theorem dX9_ones_11 : decode cX9_ones 11 = .ok (.iload_n 2, 1) := by decide +kernel
theorem dX9_ones_12 : decode cX9_ones 12 = .ok (.iload_n 2, 1) := by decide +kernel
theorem dX9_ones_13 : decode cX9_ones 13 = .ok (.iconst 1, 1) := by decide +kernel
theorem dX9_ones_14 : decode cX9_ones 14 = .ok (.isub, 1) := by decide +kernel
theorem dX9_ones_15 : decode cX9_ones 15 = .ok (.iand, 1) := by decide +kernel
theorem dX9_ones_16 : decode cX9_ones 16 = .ok (.istore_n 2, 1) := by decide +kernel
theorem dX9_ones_17 : decode cX9_ones 17 = .ok (.goto (-13), 3) := by decide +kernel
theorem dX9_ones_20 : decode cX9_ones 20 = .ok (.iload_n 1, 1) := by decide +kernel
theorem dX9_ones_21 : decode cX9_ones 21 = .ok (.ireturn, 1) := by decide +kernel
theorem dX9_amount_0 : decode cX9_amount 0 = .ok (.iload_n 0, 1) := by decide +kernel
theorem dX9_amount_1 : decode cX9_amount 1 = .ok (.ifCond .ge 8, 3) := by decide +kernel
theorem dX9_amount_4 : decode cX9_amount 4 = .ok (.iload_n 0, 1) := by decide +kernel
theorem dX9_amount_5 : decode cX9_amount 5 = .ok (.ineg, 1) := by decide +kernel
theorem dX9_amount_6 : decode cX9_amount 6 = .ok (.goto 4, 3) := by decide +kernel
theorem dX9_amount_9 : decode cX9_amount 9 = .ok (.iload_n 0, 1) := by decide +kernel
theorem dX9_amount_10 : decode cX9_amount 10 = .ok (.ireturn, 1) := by decide +kernel
theorem dX9_common_0 : decode cX9_common 0 = .ok (.lload_n 0, 1) := by decide +kernel
theorem dX9_common_1 : decode cX9_common 1 = .ok (.lstore 4, 2) := by decide +kernel
theorem dX9_common_3 : decode cX9_common 3 = .ok (.lload_n 2, 1) := by decide +kernel
theorem dX9_common_4 : decode cX9_common 4 = .ok (.lstore 6, 2) := by decide +kernel
theorem dX9_common_6 : decode cX9_common 6 = .ok (.lload 6, 2) := by decide +kernel
theorem dX9_common_8 : decode cX9_common 8 = .ok (.lconst 0, 1) := by decide +kernel
theorem dX9_common_9 : decode cX9_common 9 = .ok (.lcmp, 1) := by decide +kernel
theorem dX9_common_10 : decode cX9_common 10 = .ok (.ifCond .eq 21, 3) := by decide +kernel
theorem dX9_common_13 : decode cX9_common 13 = .ok (.lload 4, 2) := by decide +kernel
theorem dX9_common_15 : decode cX9_common 15 = .ok (.lload 6, 2) := by decide +kernel
theorem dX9_common_17 : decode cX9_common 17 = .ok (.lrem, 1) := by decide +kernel
theorem dX9_common_18 : decode cX9_common 18 = .ok (.lstore 8, 2) := by decide +kernel
theorem dX9_common_20 : decode cX9_common 20 = .ok (.lload 6, 2) := by decide +kernel
theorem dX9_common_22 : decode cX9_common 22 = .ok (.lstore 4, 2) := by decide +kernel
theorem dX9_common_24 : decode cX9_common 24 = .ok (.lload 8, 2) := by decide +kernel
theorem dX9_common_26 : decode cX9_common 26 = .ok (.lstore 6, 2) := by decide +kernel
theorem dX9_common_28 : decode cX9_common 28 = .ok (.goto (-22), 3) := by decide +kernel
theorem dX9_common_31 : decode cX9_common 31 = .ok (.lload 4, 2) := by decide +kernel
theorem dX9_common_33 : decode cX9_common 33 = .ok (.lreturn, 1) := by decide +kernel
theorem dX9_met_0 : decode cX9_met 0 = .ok (.aload_n 0, 1) := by decide +kernel
theorem dX9_met_1 : decode cX9_met 1 = .ok (.iload_n 1, 1) := by decide +kernel
theorem dX9_met_2 : decode cX9_met 2 = .ok (.putfield 92, 3) := by decide +kernel
theorem dX9_met_5 : decode cX9_met 5 = .ok (.bipush (-10), 2) := by decide +kernel
theorem dX9_met_7 : decode cX9_met 7 = .ok (.iload_n 1, 1) := by decide +kernel
theorem dX9_met_8 : decode cX9_met 8 = .ok (.isub, 1) := by decide +kernel
theorem dX9_met_9 : decode cX9_met 9 = .ok (.ireturn, 1) := by decide +kernel
theorem dX9_isSheet_0 : decode cX9_isSheet 0 = .ok (.iload_n 0, 1) := by decide +kernel
theorem dX9_isSheet_1 : decode cX9_isSheet 1 = .ok (.i2l, 1) := by decide +kernel
theorem dX9_isSheet_2 : decode cX9_isSheet 2 = .ok (.lconst 0, 1) := by decide +kernel
theorem dX9_isSheet_3 : decode cX9_isSheet 3 = .ok (.ldc2_w 96, 3) := by decide +kernel
theorem dX9_isSheet_6 : decode cX9_isSheet 6 = .ok (.invokestatic 88, 3) := by decide +kernel
theorem dX9_isSheet_9 : decode cX9_isSheet 9 = .ok (.ireturn, 1) := by decide +kernel
theorem dX9_sheet_0 : decode cX9_sheet 0 = .ok (.iload_n 1, 1) := by decide +kernel
theorem dX9_sheet_1 : decode cX9_sheet 1 = .ok (.invokestatic 98, 3) := by decide +kernel
theorem dX9_sheet_4 : decode cX9_sheet 4 = .ok (.ifCond .eq 21, 3) := by decide +kernel
theorem dX9_sheet_7 : decode cX9_sheet 7 = .ok (.iload_n 2, 1) := by decide +kernel
theorem dX9_sheet_8 : decode cX9_sheet 8 = .ok (.i2l, 1) := by decide +kernel
theorem dX9_sheet_9 : decode cX9_sheet 9 = .ok (.lconst 0, 1) := by decide +kernel
theorem dX9_sheet_10 : decode cX9_sheet 10 = .ok (.ldc2_w 102, 3) := by decide +kernel
theorem dX9_sheet_13 : decode cX9_sheet 13 = .ok (.invokestatic 88, 3) := by decide +kernel
theorem dX9_sheet_16 : decode cX9_sheet 16 = .ok (.ifCond .eq 9, 3) := by decide +kernel
theorem dX9_sheet_19 : decode cX9_sheet 19 = .ok (.iload_n 3, 1) := by decide +kernel
theorem dX9_sheet_20 : decode cX9_sheet 20 = .ok (.bipush 60, 2) := by decide +kernel
theorem dX9_sheet_22 : decode cX9_sheet 22 = .ok (.if_icmp .le 6, 3) := by decide +kernel
theorem dX9_sheet_25 : decode cX9_sheet 25 = .ok (.bipush (-2), 2) := by decide +kernel
theorem dX9_sheet_27 : decode cX9_sheet 27 = .ok (.ireturn, 1) := by decide +kernel
theorem dX9_sheet_28 : decode cX9_sheet 28 = .ok (.iload_n 3, 1) := by decide +kernel
theorem dX9_sheet_29 : decode cX9_sheet 29 = .ok (.ifCond .ge 9, 3) := by decide +kernel
theorem dX9_sheet_32 : decode cX9_sheet 32 = .ok (.aload_n 0, 1) := by decide +kernel
theorem dX9_sheet_33 : decode cX9_sheet 33 = .ok (.iconst 5, 1) := by decide +kernel
theorem dX9_sheet_34 : decode cX9_sheet 34 = .ok (.invokevirtual 104, 3) := by decide +kernel
theorem dX9_sheet_37 : decode cX9_sheet 37 = .ok (.ireturn, 1) := by decide +kernel
theorem dX9_sheet_38 : decode cX9_sheet 38 = .ok (.aload_n 0, 1) := by decide +kernel
theorem dX9_sheet_39 : decode cX9_sheet 39 = .ok (.getfield 7, 3) := by decide +kernel
theorem dX9_sheet_42 : decode cX9_sheet 42 = .ok (.iload_n 1, 1) := by decide +kernel
theorem dX9_sheet_43 : decode cX9_sheet 43 = .ok (.iload_n 2, 1) := by decide +kernel
theorem dX9_sheet_44 : decode cX9_sheet 44 = .ok (.iastore, 1) := by decide +kernel
theorem dX9_sheet_45 : decode cX9_sheet 45 = .ok (.aload_n 0, 1) := by decide +kernel
theorem dX9_sheet_46 : decode cX9_sheet 46 = .ok (.getfield 13, 3) := by decide +kernel
theorem dX9_sheet_49 : decode cX9_sheet 49 = .ok (.iload_n 1, 1) := by decide +kernel
theorem dX9_sheet_50 : decode cX9_sheet 50 = .ok (.iload_n 3, 1) := by decide +kernel
theorem dX9_sheet_51 : decode cX9_sheet 51 = .ok (.iastore, 1) := by decide +kernel
theorem dX9_sheet_52 : decode cX9_sheet 52 = .ok (.iconst 0, 1) := by decide +kernel
theorem dX9_sheet_53 : decode cX9_sheet 53 = .ok (.istore 4, 2) := by decide +kernel
theorem dX9_sheet_55 : decode cX9_sheet 55 = .ok (.iload 4, 2) := by decide +kernel
theorem dX9_sheet_57 : decode cX9_sheet 57 = .ok (.iload_n 3, 1) := by decide +kernel
theorem dX9_sheet_58 : decode cX9_sheet 58 = .ok (.if_icmp .ge 22, 3) := by decide +kernel
theorem dX9_sheet_61 : decode cX9_sheet 61 = .ok (.aload_n 0, 1) := by decide +kernel
theorem dX9_sheet_62 : decode cX9_sheet 62 = .ok (.getfield 16, 3) := by decide +kernel
theorem dX9_sheet_65 : decode cX9_sheet 65 = .ok (.bipush 60, 2) := by decide +kernel
theorem dX9_sheet_67 : decode cX9_sheet 67 = .ok (.iload_n 1, 1) := by decide +kernel
theorem dX9_sheet_68 : decode cX9_sheet 68 = .ok (.imul, 1) := by decide +kernel
theorem dX9_sheet_69 : decode cX9_sheet 69 = .ok (.iload 4, 2) := by decide +kernel
theorem dX9_sheet_71 : decode cX9_sheet 71 = .ok (.iadd, 1) := by decide +kernel
theorem dX9_sheet_72 : decode cX9_sheet 72 = .ok (.iconst 0, 1) := by decide +kernel
theorem dX9_sheet_73 : decode cX9_sheet 73 = .ok (.iastore, 1) := by decide +kernel
theorem dX9_sheet_74 : decode cX9_sheet 74 = .ok (.iinc 4 1, 3) := by decide +kernel
theorem dX9_sheet_77 : decode cX9_sheet 77 = .ok (.goto (-22), 3) := by decide +kernel
theorem dX9_sheet_80 : decode cX9_sheet 80 = .ok (.iload_n 3, 1) := by decide +kernel
theorem dX9_sheet_81 : decode cX9_sheet 81 = .ok (.ireturn, 1) := by decide +kernel
theorem dX9_lose_0 : decode cX9_lose 0 = .ok (.iload_n 1, 1) := by decide +kernel
theorem dX9_lose_1 : decode cX9_lose 1 = .ok (.invokestatic 98, 3) := by decide +kernel
theorem dX9_lose_4 : decode cX9_lose 4 = .ok (.ifCond .ne 6, 3) := by decide +kernel
theorem dX9_lose_7 : decode cX9_lose 7 = .ok (.bipush (-2), 2) := by decide +kernel
theorem dX9_lose_9 : decode cX9_lose 9 = .ok (.ireturn, 1) := by decide +kernel
theorem dX9_lose_10 : decode cX9_lose 10 = .ok (.aload_n 0, 1) := by decide +kernel
theorem dX9_lose_11 : decode cX9_lose 11 = .ok (.getfield 7, 3) := by decide +kernel
theorem dX9_lose_14 : decode cX9_lose 14 = .ok (.iload_n 1, 1) := by decide +kernel
theorem dX9_lose_15 : decode cX9_lose 15 = .ok (.iaload, 1) := by decide +kernel
theorem dX9_lose_16 : decode cX9_lose 16 = .ok (.ifCond .ge 9, 3) := by decide +kernel
theorem dX9_lose_19 : decode cX9_lose 19 = .ok (.aload_n 0, 1) := by decide +kernel
theorem dX9_lose_20 : decode cX9_lose 20 = .ok (.iconst 1, 1) := by decide +kernel
theorem dX9_lose_21 : decode cX9_lose 21 = .ok (.invokevirtual 104, 3) := by decide +kernel
theorem dX9_lose_24 : decode cX9_lose 24 = .ok (.ireturn, 1) := by decide +kernel
theorem dX9_lose_25 : decode cX9_lose 25 = .ok (.aload_n 0, 1) := by decide +kernel
theorem dX9_lose_26 : decode cX9_lose 26 = .ok (.getfield 7, 3) := by decide +kernel
theorem dX9_lose_29 : decode cX9_lose 29 = .ok (.iload_n 1, 1) := by decide +kernel
theorem dX9_lose_30 : decode cX9_lose 30 = .ok (.iconst (-1), 1) := by decide +kernel
theorem dX9_lose_31 : decode cX9_lose 31 = .ok (.iastore, 1) := by decide +kernel
theorem dX9_lose_32 : decode cX9_lose 32 = .ok (.aload_n 0, 1) := by decide +kernel
theorem dX9_lose_33 : decode cX9_lose 33 = .ok (.getfield 13, 3) := by decide +kernel
theorem dX9_lose_36 : decode cX9_lose 36 = .ok (.iload_n 1, 1) := by decide +kernel
theorem dX9_lose_37 : decode cX9_lose 37 = .ok (.iaload, 1) := by decide +kernel
theorem dX9_lose_38 : decode cX9_lose 38 = .ok (.ireturn, 1) := by decide +kernel
theorem dX9_lacks_0 : decode cX9_lacks 0 = .ok (.aload_n 0, 1) := by decide +kernel
theorem dX9_lacks_1 : decode cX9_lacks 1 = .ok (.getfield 7, 3) := by decide +kernel
theorem dX9_lacks_4 : decode cX9_lacks 4 = .ok (.iload_n 1, 1) := by decide +kernel
theorem dX9_lacks_5 : decode cX9_lacks 5 = .ok (.iaload, 1) := by decide +kernel
theorem dX9_lacks_6 : decode cX9_lacks 6 = .ok (.ifCond .ge 9, 3) := by decide +kernel
theorem dX9_lacks_9 : decode cX9_lacks 9 = .ok (.aload_n 0, 1) := by decide +kernel
theorem dX9_lacks_10 : decode cX9_lacks 10 = .ok (.iconst 1, 1) := by decide +kernel
theorem dX9_lacks_11 : decode cX9_lacks 11 = .ok (.invokevirtual 104, 3) := by decide +kernel
theorem dX9_lacks_14 : decode cX9_lacks 14 = .ok (.ireturn, 1) := by decide +kernel
theorem dX9_lacks_15 : decode cX9_lacks 15 = .ok (.aload_n 0, 1) := by decide +kernel
theorem dX9_lacks_16 : decode cX9_lacks 16 = .ok (.getfield 7, 3) := by decide +kernel
theorem dX9_lacks_19 : decode cX9_lacks 19 = .ok (.iload_n 1, 1) := by decide +kernel
theorem dX9_lacks_20 : decode cX9_lacks 20 = .ok (.iaload, 1) := by decide +kernel
theorem dX9_lacks_21 : decode cX9_lacks 21 = .ok (.iload_n 2, 1) := by decide +kernel
theorem dX9_lacks_22 : decode cX9_lacks 22 = .ok (.if_icmp .eq 9, 3) := by decide +kernel
theorem dX9_lacks_25 : decode cX9_lacks 25 = .ok (.aload_n 0, 1) := by decide +kernel
theorem dX9_lacks_26 : decode cX9_lacks 26 = .ok (.iconst 3, 1) := by decide +kernel
theorem dX9_lacks_27 : decode cX9_lacks 27 = .ok (.invokevirtual 104, 3) := by decide +kernel
theorem dX9_lacks_30 : decode cX9_lacks 30 = .ok (.ireturn, 1) := by decide +kernel
theorem dX9_lacks_31 : decode cX9_lacks 31 = .ok (.iload_n 3, 1) := by decide +kernel
theorem dX9_lacks_32 : decode cX9_lacks 32 = .ok (.i2l, 1) := by decide +kernel
theorem dX9_lacks_33 : decode cX9_lacks 33 = .ok (.lconst 0, 1) := by decide +kernel
theorem dX9_lacks_34 : decode cX9_lacks 34 = .ok (.aload_n 0, 1) := by decide +kernel
theorem dX9_lacks_35 : decode cX9_lacks 35 = .ok (.getfield 13, 3) := by decide +kernel
theorem dX9_lacks_38 : decode cX9_lacks 38 = .ok (.iload_n 1, 1) := by decide +kernel
theorem dX9_lacks_39 : decode cX9_lacks 39 = .ok (.iaload, 1) := by decide +kernel
theorem dX9_lacks_40 : decode cX9_lacks 40 = .ok (.iconst 1, 1) := by decide +kernel
theorem dX9_lacks_41 : decode cX9_lacks 41 = .ok (.isub, 1) := by decide +kernel
theorem dX9_lacks_42 : decode cX9_lacks 42 = .ok (.i2l, 1) := by decide +kernel
theorem dX9_lacks_43 : decode cX9_lacks 43 = .ok (.invokestatic 88, 3) := by decide +kernel
theorem dX9_lacks_46 : decode cX9_lacks 46 = .ok (.ifCond .eq 7, 3) := by decide +kernel
theorem dX9_lacks_49 : decode cX9_lacks 49 = .ok (.iconst 0, 1) := by decide +kernel
theorem dX9_lacks_50 : decode cX9_lacks 50 = .ok (.goto 8, 3) := by decide +kernel
theorem dX9_lacks_53 : decode cX9_lacks 53 = .ok (.aload_n 0, 1) := by decide +kernel
theorem dX9_lacks_54 : decode cX9_lacks 54 = .ok (.iconst 2, 1) := by decide +kernel
theorem dX9_lacks_55 : decode cX9_lacks 55 = .ok (.invokevirtual 104, 3) := by decide +kernel
theorem dX9_lacks_58 : decode cX9_lacks 58 = .ok (.ireturn, 1) := by decide +kernel
theorem dX9_cut_0 : decode cX9_cut 0 = .ok (.iload_n 0, 1) := by decide +kernel
theorem dX9_cut_1 : decode cX9_cut 1 = .ok (.ifCond .ne 8, 3) := by decide +kernel
theorem dX9_cut_4 : decode cX9_cut 4 = .ok (.iload_n 1, 1) := by decide +kernel
theorem dX9_cut_5 : decode cX9_cut 5 = .ok (.i2b, 1) := by decide +kernel
theorem dX9_cut_6 : decode cX9_cut 6 = .ok (.goto 14, 3) := by decide +kernel
theorem dX9_cut_9 : decode cX9_cut 9 = .ok (.iload_n 0, 1) := by decide +kernel
theorem dX9_cut_10 : decode cX9_cut 10 = .ok (.iconst 1, 1) := by decide +kernel
theorem dX9_cut_11 : decode cX9_cut 11 = .ok (.if_icmp .ne 8, 3) := by decide +kernel
theorem dX9_cut_14 : decode cX9_cut 14 = .ok (.iload_n 1, 1) := by decide +kernel
theorem dX9_cut_15 : decode cX9_cut 15 = .ok (.i2s, 1) := by decide +kernel
theorem dX9_cut_16 : decode cX9_cut 16 = .ok (.goto 4, 3) := by decide +kernel
theorem dX9_cut_19 : decode cX9_cut 19 = .ok (.iload_n 1, 1) := by decide +kernel
theorem dX9_cut_20 : decode cX9_cut 20 = .ok (.ireturn, 1) := by decide +kernel
theorem dX9_lay_0 : decode cX9_lay 0 = .ok (.iload_n 1, 1) := by decide +kernel
theorem dX9_lay_1 : decode cX9_lay 1 = .ok (.invokestatic 98, 3) := by decide +kernel
theorem dX9_lay_4 : decode cX9_lay 4 = .ok (.ifCond .eq 15, 3) := by decide +kernel
theorem dX9_lay_7 : decode cX9_lay 7 = .ok (.iload_n 2, 1) := by decide +kernel
theorem dX9_lay_8 : decode cX9_lay 8 = .ok (.i2l, 1) := by decide +kernel
theorem dX9_lay_9 : decode cX9_lay 9 = .ok (.lconst 0, 1) := by decide +kernel
theorem dX9_lay_10 : decode cX9_lay 10 = .ok (.ldc2_w 102, 3) := by decide +kernel
theorem dX9_lay_13 : decode cX9_lay 13 = .ok (.invokestatic 88, 3) := by decide +kernel
theorem dX9_lay_16 : decode cX9_lay 16 = .ok (.ifCond .ne 6, 3) := by decide +kernel
theorem dX9_lay_19 : decode cX9_lay 19 = .ok (.bipush (-2), 2) := by decide +kernel
theorem dX9_lay_21 : decode cX9_lay 21 = .ok (.ireturn, 1) := by decide +kernel
theorem dX9_lay_22 : decode cX9_lay 22 = .ok (.aload_n 0, 1) := by decide +kernel
theorem dX9_lay_23 : decode cX9_lay 23 = .ok (.iload_n 1, 1) := by decide +kernel
theorem dX9_lay_24 : decode cX9_lay 24 = .ok (.iload_n 2, 1) := by decide +kernel
theorem dX9_lay_25 : decode cX9_lay 25 = .ok (.iload_n 3, 1) := by decide +kernel
theorem dX9_lay_26 : decode cX9_lay 26 = .ok (.invokevirtual 108, 3) := by decide +kernel
theorem dX9_lay_29 : decode cX9_lay 29 = .ok (.istore 5, 2) := by decide +kernel
theorem dX9_lay_31 : decode cX9_lay 31 = .ok (.iload 5, 2) := by decide +kernel
theorem dX9_lay_33 : decode cX9_lay 33 = .ok (.ifCond .eq 6, 3) := by decide +kernel
theorem dX9_lay_36 : decode cX9_lay 36 = .ok (.iload 5, 2) := by decide +kernel
theorem dX9_lay_38 : decode cX9_lay 38 = .ok (.ireturn, 1) := by decide +kernel
theorem dX9_lay_39 : decode cX9_lay 39 = .ok (.aload_n 0, 1) := by decide +kernel
theorem dX9_lay_40 : decode cX9_lay 40 = .ok (.getfield 16, 3) := by decide +kernel
theorem dX9_lay_43 : decode cX9_lay 43 = .ok (.bipush 60, 2) := by decide +kernel
theorem dX9_lay_45 : decode cX9_lay 45 = .ok (.iload_n 1, 1) := by decide +kernel
theorem dX9_lay_46 : decode cX9_lay 46 = .ok (.imul, 1) := by decide +kernel
theorem dX9_lay_47 : decode cX9_lay 47 = .ok (.iload_n 3, 1) := by decide +kernel
theorem dX9_lay_48 : decode cX9_lay 48 = .ok (.iadd, 1) := by decide +kernel
theorem dX9_lay_49 : decode cX9_lay 49 = .ok (.iload_n 2, 1) := by decide +kernel
theorem dX9_lay_50 : decode cX9_lay 50 = .ok (.iload 4, 2) := by decide +kernel
theorem dX9_lay_52 : decode cX9_lay 52 = .ok (.invokestatic 112, 3) := by decide +kernel
theorem dX9_lay_55 : decode cX9_lay 55 = .ok (.iastore, 1) := by decide +kernel
theorem dX9_lay_56 : decode cX9_lay 56 = .ok (.iconst 1, 1) := by decide +kernel
theorem dX9_lay_57 : decode cX9_lay 57 = .ok (.ireturn, 1) := by decide +kernel
theorem dX9_get_0 : decode cX9_get 0 = .ok (.iload_n 1, 1) := by decide +kernel
theorem dX9_get_1 : decode cX9_get 1 = .ok (.invokestatic 98, 3) := by decide +kernel
theorem dX9_get_4 : decode cX9_get 4 = .ok (.ifCond .eq 25, 3) := by decide +kernel
theorem dX9_get_7 : decode cX9_get 7 = .ok (.iload_n 2, 1) := by decide +kernel
theorem dX9_get_8 : decode cX9_get 8 = .ok (.i2l, 1) := by decide +kernel
theorem dX9_get_9 : decode cX9_get 9 = .ok (.lconst 0, 1) := by decide +kernel
theorem dX9_get_10 : decode cX9_get 10 = .ok (.ldc2_w 102, 3) := by decide +kernel
theorem dX9_get_13 : decode cX9_get 13 = .ok (.invokestatic 88, 3) := by decide +kernel
theorem dX9_get_16 : decode cX9_get 16 = .ok (.ifCond .eq 13, 3) := by decide +kernel
theorem dX9_get_19 : decode cX9_get 19 = .ok (.aload_n 0, 1) := by decide +kernel
theorem dX9_get_20 : decode cX9_get 20 = .ok (.iload_n 1, 1) := by decide +kernel
theorem dX9_get_21 : decode cX9_get 21 = .ok (.iload_n 2, 1) := by decide +kernel
theorem dX9_get_22 : decode cX9_get 22 = .ok (.iload_n 3, 1) := by decide +kernel
theorem dX9_get_23 : decode cX9_get 23 = .ok (.invokevirtual 108, 3) := by decide +kernel
theorem dX9_get_26 : decode cX9_get 26 = .ok (.ifCond .eq 6, 3) := by decide +kernel
theorem dX9_get_29 : decode cX9_get 29 = .ok (.ldc 116, 2) := by decide +kernel
theorem dX9_get_31 : decode cX9_get 31 = .ok (.ireturn, 1) := by decide +kernel
theorem dX9_get_32 : decode cX9_get 32 = .ok (.aload_n 0, 1) := by decide +kernel
theorem dX9_get_33 : decode cX9_get 33 = .ok (.getfield 16, 3) := by decide +kernel
theorem dX9_get_36 : decode cX9_get 36 = .ok (.bipush 60, 2) := by decide +kernel
theorem dX9_get_38 : decode cX9_get 38 = .ok (.iload_n 1, 1) := by decide +kernel
theorem dX9_get_39 : decode cX9_get 39 = .ok (.imul, 1) := by decide +kernel
theorem dX9_get_40 : decode cX9_get 40 = .ok (.iload_n 3, 1) := by decide +kernel
theorem dX9_get_41 : decode cX9_get 41 = .ok (.iadd, 1) := by decide +kernel
theorem dX9_get_42 : decode cX9_get 42 = .ok (.iaload, 1) := by decide +kernel
theorem dX9_get_43 : decode cX9_get 43 = .ok (.ireturn, 1) := by decide +kernel
theorem dX9_copy_0 : decode cX9_copy 0 = .ok (.iload_n 1, 1) := by decide +kernel
theorem dX9_copy_1 : decode cX9_copy 1 = .ok (.invokestatic 98, 3) := by decide +kernel
theorem dX9_copy_4 : decode cX9_copy 4 = .ok (.ifCond .eq 10, 3) := by decide +kernel
theorem dX9_copy_7 : decode cX9_copy 7 = .ok (.iload_n 3, 1) := by decide +kernel
theorem dX9_copy_8 : decode cX9_copy 8 = .ok (.invokestatic 98, 3) := by decide +kernel
theorem dX9_copy_11 : decode cX9_copy 11 = .ok (.ifCond .ne 6, 3) := by decide +kernel
theorem dX9_copy_14 : decode cX9_copy 14 = .ok (.bipush (-2), 2) := by decide +kernel
theorem dX9_copy_16 : decode cX9_copy 16 = .ok (.ireturn, 1) := by decide +kernel
theorem dX9_copy_17 : decode cX9_copy 17 = .ok (.aload_n 0, 1) := by decide +kernel
theorem dX9_copy_18 : decode cX9_copy 18 = .ok (.getfield 7, 3) := by decide +kernel
theorem dX9_copy_21 : decode cX9_copy 21 = .ok (.iload_n 1, 1) := by decide +kernel
theorem dX9_copy_22 : decode cX9_copy 22 = .ok (.iaload, 1) := by decide +kernel
theorem dX9_copy_23 : decode cX9_copy 23 = .ok (.ifCond .lt 12, 3) := by decide +kernel
theorem dX9_copy_26 : decode cX9_copy 26 = .ok (.aload_n 0, 1) := by decide +kernel
theorem dX9_copy_27 : decode cX9_copy 27 = .ok (.getfield 7, 3) := by decide +kernel
theorem dX9_copy_30 : decode cX9_copy 30 = .ok (.iload_n 3, 1) := by decide +kernel
theorem dX9_copy_31 : decode cX9_copy 31 = .ok (.iaload, 1) := by decide +kernel
theorem dX9_copy_32 : decode cX9_copy 32 = .ok (.ifCond .ge 9, 3) := by decide +kernel
theorem dX9_copy_35 : decode cX9_copy 35 = .ok (.aload_n 0, 1) := by decide +kernel
theorem dX9_copy_36 : decode cX9_copy 36 = .ok (.iconst 1, 1) := by decide +kernel
theorem dX9_copy_37 : decode cX9_copy 37 = .ok (.invokevirtual 104, 3) := by decide +kernel
theorem dX9_copy_40 : decode cX9_copy 40 = .ok (.ireturn, 1) := by decide +kernel
theorem dX9_copy_41 : decode cX9_copy 41 = .ok (.aload_n 0, 1) := by decide +kernel
theorem dX9_copy_42 : decode cX9_copy 42 = .ok (.getfield 7, 3) := by decide +kernel
theorem dX9_copy_45 : decode cX9_copy 45 = .ok (.iload_n 1, 1) := by decide +kernel
theorem dX9_copy_46 : decode cX9_copy 46 = .ok (.iaload, 1) := by decide +kernel
theorem dX9_copy_47 : decode cX9_copy 47 = .ok (.aload_n 0, 1) := by decide +kernel
theorem dX9_copy_48 : decode cX9_copy 48 = .ok (.getfield 7, 3) := by decide +kernel
theorem dX9_copy_51 : decode cX9_copy 51 = .ok (.iload_n 3, 1) := by decide +kernel
theorem dX9_copy_52 : decode cX9_copy 52 = .ok (.iaload, 1) := by decide +kernel
theorem dX9_copy_53 : decode cX9_copy 53 = .ok (.if_icmp .eq 9, 3) := by decide +kernel
theorem dX9_copy_56 : decode cX9_copy 56 = .ok (.aload_n 0, 1) := by decide +kernel
theorem dX9_copy_57 : decode cX9_copy 57 = .ok (.iconst 4, 1) := by decide +kernel
theorem dX9_copy_58 : decode cX9_copy 58 = .ok (.invokevirtual 104, 3) := by decide +kernel
theorem dX9_copy_61 : decode cX9_copy 61 = .ok (.ireturn, 1) := by decide +kernel
theorem dX9_copy_62 : decode cX9_copy 62 = .ok (.iload_n 2, 1) := by decide +kernel
theorem dX9_copy_63 : decode cX9_copy 63 = .ok (.ifCond .lt 48, 3) := by decide +kernel
theorem dX9_copy_66 : decode cX9_copy 66 = .ok (.iload 4, 2) := by decide +kernel
theorem dX9_copy_68 : decode cX9_copy 68 = .ok (.ifCond .lt 43, 3) := by decide +kernel
theorem dX9_copy_71 : decode cX9_copy 71 = .ok (.iload 5, 2) := by decide +kernel
theorem dX9_copy_73 : decode cX9_copy 73 = .ok (.ifCond .lt 38, 3) := by decide +kernel
theorem dX9_copy_76 : decode cX9_copy 76 = .ok (.iload_n 2, 1) := by decide +kernel
theorem dX9_copy_77 : decode cX9_copy 77 = .ok (.i2l, 1) := by decide +kernel
theorem dX9_copy_78 : decode cX9_copy 78 = .ok (.iload 5, 2) := by decide +kernel
theorem dX9_copy_80 : decode cX9_copy 80 = .ok (.i2l, 1) := by decide +kernel
theorem dX9_copy_81 : decode cX9_copy 81 = .ok (.ladd, 1) := by decide +kernel
theorem dX9_copy_82 : decode cX9_copy 82 = .ok (.aload_n 0, 1) := by decide +kernel
theorem dX9_copy_83 : decode cX9_copy 83 = .ok (.getfield 13, 3) := by decide +kernel
theorem dX9_copy_86 : decode cX9_copy 86 = .ok (.iload_n 1, 1) := by decide +kernel
theorem dX9_copy_87 : decode cX9_copy 87 = .ok (.iaload, 1) := by decide +kernel
theorem dX9_copy_88 : decode cX9_copy 88 = .ok (.i2l, 1) := by decide +kernel
theorem dX9_copy_89 : decode cX9_copy 89 = .ok (.lcmp, 1) := by decide +kernel
theorem dX9_copy_90 : decode cX9_copy 90 = .ok (.ifCond .gt 21, 3) := by decide +kernel
theorem dX9_copy_93 : decode cX9_copy 93 = .ok (.iload 4, 2) := by decide +kernel
theorem dX9_copy_95 : decode cX9_copy 95 = .ok (.i2l, 1) := by decide +kernel
theorem dX9_copy_96 : decode cX9_copy 96 = .ok (.iload 5, 2) := by decide +kernel
theorem dX9_copy_98 : decode cX9_copy 98 = .ok (.i2l, 1) := by decide +kernel
theorem dX9_copy_99 : decode cX9_copy 99 = .ok (.ladd, 1) := by decide +kernel
theorem dX9_copy_100 : decode cX9_copy 100 = .ok (.aload_n 0, 1) := by decide +kernel
theorem dX9_copy_101 : decode cX9_copy 101 = .ok (.getfield 13, 3) := by decide +kernel
theorem dX9_copy_104 : decode cX9_copy 104 = .ok (.iload_n 3, 1) := by decide +kernel
theorem dX9_copy_105 : decode cX9_copy 105 = .ok (.iaload, 1) := by decide +kernel
theorem dX9_copy_106 : decode cX9_copy 106 = .ok (.i2l, 1) := by decide +kernel
theorem dX9_copy_107 : decode cX9_copy 107 = .ok (.lcmp, 1) := by decide +kernel
theorem dX9_copy_108 : decode cX9_copy 108 = .ok (.ifCond .le 9, 3) := by decide +kernel
theorem dX9_copy_111 : decode cX9_copy 111 = .ok (.aload_n 0, 1) := by decide +kernel
theorem dX9_copy_112 : decode cX9_copy 112 = .ok (.iconst 2, 1) := by decide +kernel
theorem dX9_copy_113 : decode cX9_copy 113 = .ok (.invokevirtual 104, 3) := by decide +kernel
theorem dX9_copy_116 : decode cX9_copy 116 = .ok (.ireturn, 1) := by decide +kernel
theorem dX9_copy_117 : decode cX9_copy 117 = .ok (.iconst 0, 1) := by decide +kernel
theorem dX9_copy_118 : decode cX9_copy 118 = .ok (.istore 6, 2) := by decide +kernel
theorem dX9_copy_120 : decode cX9_copy 120 = .ok (.iload 6, 2) := by decide +kernel
theorem dX9_copy_122 : decode cX9_copy 122 = .ok (.iload 5, 2) := by decide +kernel
theorem dX9_copy_124 : decode cX9_copy 124 = .ok (.if_icmp .ge 30, 3) := by decide +kernel
theorem dX9_copy_127 : decode cX9_copy 127 = .ok (.aload_n 0, 1) := by decide +kernel
theorem dX9_copy_128 : decode cX9_copy 128 = .ok (.getfield 19, 3) := by decide +kernel
theorem dX9_copy_131 : decode cX9_copy 131 = .ok (.iload 6, 2) := by decide +kernel
theorem dX9_copy_133 : decode cX9_copy 133 = .ok (.aload_n 0, 1) := by decide +kernel
theorem dX9_copy_134 : decode cX9_copy 134 = .ok (.getfield 16, 3) := by decide +kernel
theorem dX9_copy_137 : decode cX9_copy 137 = .ok (.bipush 60, 2) := by decide +kernel
theorem dX9_copy_139 : decode cX9_copy 139 = .ok (.iload_n 1, 1) := by decide +kernel
theorem dX9_copy_140 : decode cX9_copy 140 = .ok (.imul, 1) := by decide +kernel
theorem dX9_copy_141 : decode cX9_copy 141 = .ok (.iload_n 2, 1) := by decide +kernel
theorem dX9_copy_142 : decode cX9_copy 142 = .ok (.iadd, 1) := by decide +kernel
theorem dX9_copy_143 : decode cX9_copy 143 = .ok (.iload 6, 2) := by decide +kernel
theorem dX9_copy_145 : decode cX9_copy 145 = .ok (.iadd, 1) := by decide +kernel
theorem dX9_copy_146 : decode cX9_copy 146 = .ok (.iaload, 1) := by decide +kernel
theorem dX9_copy_147 : decode cX9_copy 147 = .ok (.iastore, 1) := by decide +kernel
theorem dX9_copy_148 : decode cX9_copy 148 = .ok (.iinc 6 1, 3) := by decide +kernel
theorem dX9_copy_151 : decode cX9_copy 151 = .ok (.goto (-31), 3) := by decide +kernel
theorem dX9_copy_154 : decode cX9_copy 154 = .ok (.iconst 0, 1) := by decide +kernel
theorem dX9_copy_155 : decode cX9_copy 155 = .ok (.istore 6, 2) := by decide +kernel
theorem dX9_copy_157 : decode cX9_copy 157 = .ok (.iload 6, 2) := by decide +kernel
theorem dX9_copy_159 : decode cX9_copy 159 = .ok (.iload 5, 2) := by decide +kernel
theorem dX9_copy_161 : decode cX9_copy 161 = .ok (.if_icmp .ge 31, 3) := by decide +kernel
theorem dX9_copy_164 : decode cX9_copy 164 = .ok (.aload_n 0, 1) := by decide +kernel
theorem dX9_copy_165 : decode cX9_copy 165 = .ok (.getfield 16, 3) := by decide +kernel
theorem dX9_copy_168 : decode cX9_copy 168 = .ok (.bipush 60, 2) := by decide +kernel
theorem dX9_copy_170 : decode cX9_copy 170 = .ok (.iload_n 3, 1) := by decide +kernel
theorem dX9_copy_171 : decode cX9_copy 171 = .ok (.imul, 1) := by decide +kernel
theorem dX9_copy_172 : decode cX9_copy 172 = .ok (.iload 4, 2) := by decide +kernel
theorem dX9_copy_174 : decode cX9_copy 174 = .ok (.iadd, 1) := by decide +kernel
theorem dX9_copy_175 : decode cX9_copy 175 = .ok (.iload 6, 2) := by decide +kernel
theorem dX9_copy_177 : decode cX9_copy 177 = .ok (.iadd, 1) := by decide +kernel
theorem dX9_copy_178 : decode cX9_copy 178 = .ok (.aload_n 0, 1) := by decide +kernel
theorem dX9_copy_179 : decode cX9_copy 179 = .ok (.getfield 19, 3) := by decide +kernel
theorem dX9_copy_182 : decode cX9_copy 182 = .ok (.iload 6, 2) := by decide +kernel
theorem dX9_copy_184 : decode cX9_copy 184 = .ok (.iaload, 1) := by decide +kernel
theorem dX9_copy_185 : decode cX9_copy 185 = .ok (.iastore, 1) := by decide +kernel
theorem dX9_copy_186 : decode cX9_copy 186 = .ok (.iinc 6 1, 3) := by decide +kernel
theorem dX9_copy_189 : decode cX9_copy 189 = .ok (.goto (-32), 3) := by decide +kernel
theorem dX9_copy_192 : decode cX9_copy 192 = .ok (.iconst 1, 1) := by decide +kernel
theorem dX9_copy_193 : decode cX9_copy 193 = .ok (.ireturn, 1) := by decide +kernel
theorem dX9_isText_0 : decode cX9_isText 0 = .ok (.iload_n 0, 1) := by decide +kernel
theorem dX9_isText_1 : decode cX9_isText 1 = .ok (.i2l, 1) := by decide +kernel
theorem dX9_isText_2 : decode cX9_isText 2 = .ok (.lconst 0, 1) := by decide +kernel
theorem dX9_isText_3 : decode cX9_isText 3 = .ok (.ldc2_w 102, 3) := by decide +kernel
theorem dX9_isText_6 : decode cX9_isText 6 = .ok (.invokestatic 88, 3) := by decide +kernel
theorem dX9_isText_9 : decode cX9_isText 9 = .ok (.ireturn, 1) := by decide +kernel
theorem dX9_type_0 : decode cX9_type 0 = .ok (.iload_n 1, 1) := by decide +kernel
theorem dX9_type_1 : decode cX9_type 1 = .ok (.invokestatic 117, 3) := by decide +kernel
theorem dX9_type_4 : decode cX9_type 4 = .ok (.ifCond .eq 15, 3) := by decide +kernel
theorem dX9_type_7 : decode cX9_type 7 = .ok (.iload_n 2, 1) := by decide +kernel
theorem dX9_type_8 : decode cX9_type 8 = .ok (.i2l, 1) := by decide +kernel
theorem dX9_type_9 : decode cX9_type 9 = .ok (.lconst 0, 1) := by decide +kernel
theorem dX9_type_10 : decode cX9_type 10 = .ok (.ldc2_w 120, 3) := by decide +kernel
theorem dX9_type_13 : decode cX9_type 13 = .ok (.invokestatic 88, 3) := by decide +kernel
theorem dX9_type_16 : decode cX9_type 16 = .ok (.ifCond .ne 6, 3) := by decide +kernel
theorem dX9_type_19 : decode cX9_type 19 = .ok (.bipush (-2), 2) := by decide +kernel
theorem dX9_type_21 : decode cX9_type 21 = .ok (.ireturn, 1) := by decide +kernel
theorem dX9_type_22 : decode cX9_type 22 = .ok (.aload_n 0, 1) := by decide +kernel
theorem dX9_type_23 : decode cX9_type 23 = .ok (.getfield 25, 3) := by decide +kernel
theorem dX9_type_26 : decode cX9_type 26 = .ok (.iload_n 1, 1) := by decide +kernel
theorem dX9_type_27 : decode cX9_type 27 = .ok (.iaload, 1) := by decide +kernel
theorem dX9_type_28 : decode cX9_type 28 = .ok (.iload_n 1, 1) := by decide +kernel
theorem dX9_type_29 : decode cX9_type 29 = .ok (.ifCond .ne 8, 3) := by decide +kernel
theorem dX9_type_32 : decode cX9_type 32 = .ok (.bipush 15, 2) := by decide +kernel
theorem dX9_type_34 : decode cX9_type 34 = .ok (.goto 5, 3) := by decide +kernel
theorem dX9_type_37 : decode cX9_type 37 = .ok (.bipush 31, 2) := by decide +kernel
theorem dX9_type_39 : decode cX9_type 39 = .ok (.if_icmp .ne 6, 3) := by decide +kernel
theorem dX9_type_42 : decode cX9_type 42 = .ok (.bipush (-4), 2) := by decide +kernel
theorem dX9_type_44 : decode cX9_type 44 = .ok (.ireturn, 1) := by decide +kernel
theorem dX9_type_45 : decode cX9_type 45 = .ok (.aload_n 0, 1) := by decide +kernel
theorem dX9_type_46 : decode cX9_type 46 = .ok (.getfield 22, 3) := by decide +kernel
theorem dX9_type_49 : decode cX9_type 49 = .ok (.bipush 40, 2) := by decide +kernel
theorem dX9_type_51 : decode cX9_type 51 = .ok (.iload_n 1, 1) := by decide +kernel
theorem dX9_type_52 : decode cX9_type 52 = .ok (.imul, 1) := by decide +kernel
theorem dX9_type_53 : decode cX9_type 53 = .ok (.aload_n 0, 1) := by decide +kernel
theorem dX9_type_54 : decode cX9_type 54 = .ok (.getfield 25, 3) := by decide +kernel
theorem dX9_type_57 : decode cX9_type 57 = .ok (.iload_n 1, 1) := by decide +kernel
theorem dX9_type_58 : decode cX9_type 58 = .ok (.iaload, 1) := by decide +kernel
theorem dX9_type_59 : decode cX9_type 59 = .ok (.iadd, 1) := by decide +kernel
theorem dX9_type_60 : decode cX9_type 60 = .ok (.iload_n 2, 1) := by decide +kernel
theorem dX9_type_61 : decode cX9_type 61 = .ok (.iastore, 1) := by decide +kernel
theorem dX9_type_62 : decode cX9_type 62 = .ok (.aload_n 0, 1) := by decide +kernel
theorem dX9_type_63 : decode cX9_type 63 = .ok (.getfield 25, 3) := by decide +kernel
theorem dX9_type_66 : decode cX9_type 66 = .ok (.iload_n 1, 1) := by decide +kernel
theorem dX9_type_67 : decode cX9_type 67 = .ok (.dup2, 1) := by decide +kernel
theorem dX9_type_68 : decode cX9_type 68 = .ok (.iaload, 1) := by decide +kernel
theorem dX9_type_69 : decode cX9_type 69 = .ok (.iconst 1, 1) := by decide +kernel
theorem dX9_type_70 : decode cX9_type 70 = .ok (.iadd, 1) := by decide +kernel
theorem dX9_type_71 : decode cX9_type 71 = .ok (.iastore, 1) := by decide +kernel
theorem dX9_type_72 : decode cX9_type 72 = .ok (.aload_n 0, 1) := by decide +kernel
theorem dX9_type_73 : decode cX9_type 73 = .ok (.getfield 25, 3) := by decide +kernel
theorem dX9_type_76 : decode cX9_type 76 = .ok (.iload_n 1, 1) := by decide +kernel
theorem dX9_type_77 : decode cX9_type 77 = .ok (.iaload, 1) := by decide +kernel
theorem dX9_type_78 : decode cX9_type 78 = .ok (.ireturn, 1) := by decide +kernel
theorem dX9_wipe_0 : decode cX9_wipe 0 = .ok (.iload_n 1, 1) := by decide +kernel
theorem dX9_wipe_1 : decode cX9_wipe 1 = .ok (.invokestatic 117, 3) := by decide +kernel
theorem dX9_wipe_4 : decode cX9_wipe 4 = .ok (.ifCond .ne 6, 3) := by decide +kernel
theorem dX9_wipe_7 : decode cX9_wipe 7 = .ok (.bipush (-2), 2) := by decide +kernel
theorem dX9_wipe_9 : decode cX9_wipe 9 = .ok (.ireturn, 1) := by decide +kernel
theorem dX9_wipe_10 : decode cX9_wipe 10 = .ok (.aload_n 0, 1) := by decide +kernel
theorem dX9_wipe_11 : decode cX9_wipe 11 = .ok (.getfield 25, 3) := by decide +kernel
theorem dX9_wipe_14 : decode cX9_wipe 14 = .ok (.iload_n 1, 1) := by decide +kernel
theorem dX9_wipe_15 : decode cX9_wipe 15 = .ok (.iaload, 1) := by decide +kernel
theorem dX9_wipe_16 : decode cX9_wipe 16 = .ok (.istore_n 2, 1) := by decide +kernel
theorem dX9_wipe_17 : decode cX9_wipe 17 = .ok (.aload_n 0, 1) := by decide +kernel
theorem dX9_wipe_18 : decode cX9_wipe 18 = .ok (.getfield 25, 3) := by decide +kernel
theorem dX9_wipe_21 : decode cX9_wipe 21 = .ok (.iload_n 1, 1) := by decide +kernel
theorem dX9_wipe_22 : decode cX9_wipe 22 = .ok (.iconst 0, 1) := by decide +kernel
theorem dX9_wipe_23 : decode cX9_wipe 23 = .ok (.iastore, 1) := by decide +kernel
theorem dX9_wipe_24 : decode cX9_wipe 24 = .ok (.iload_n 2, 1) := by decide +kernel
theorem dX9_wipe_25 : decode cX9_wipe 25 = .ok (.ireturn, 1) := by decide +kernel
theorem dX9_undo_0 : decode cX9_undo 0 = .ok (.iload_n 1, 1) := by decide +kernel
theorem dX9_undo_1 : decode cX9_undo 1 = .ok (.invokestatic 117, 3) := by decide +kernel
theorem dX9_undo_4 : decode cX9_undo 4 = .ok (.ifCond .ne 6, 3) := by decide +kernel
theorem dX9_undo_7 : decode cX9_undo 7 = .ok (.bipush (-2), 2) := by decide +kernel
theorem dX9_undo_9 : decode cX9_undo 9 = .ok (.ireturn, 1) := by decide +kernel
theorem dX9_undo_10 : decode cX9_undo 10 = .ok (.aload_n 0, 1) := by decide +kernel
theorem dX9_undo_11 : decode cX9_undo 11 = .ok (.getfield 25, 3) := by decide +kernel
theorem dX9_undo_14 : decode cX9_undo 14 = .ok (.iload_n 1, 1) := by decide +kernel
theorem dX9_undo_15 : decode cX9_undo 15 = .ok (.iaload, 1) := by decide +kernel
theorem dX9_undo_16 : decode cX9_undo 16 = .ok (.ifCond .ne 6, 3) := by decide +kernel
theorem dX9_undo_19 : decode cX9_undo 19 = .ok (.bipush (-3), 2) := by decide +kernel
theorem dX9_undo_21 : decode cX9_undo 21 = .ok (.ireturn, 1) := by decide +kernel
theorem dX9_undo_22 : decode cX9_undo 22 = .ok (.aload_n 0, 1) := by decide +kernel
theorem dX9_undo_23 : decode cX9_undo 23 = .ok (.getfield 25, 3) := by decide +kernel
theorem dX9_undo_26 : decode cX9_undo 26 = .ok (.iload_n 1, 1) := by decide +kernel
theorem dX9_undo_27 : decode cX9_undo 27 = .ok (.dup2, 1) := by decide +kernel
theorem dX9_undo_28 : decode cX9_undo 28 = .ok (.iaload, 1) := by decide +kernel
theorem dX9_undo_29 : decode cX9_undo 29 = .ok (.iconst 1, 1) := by decide +kernel
theorem dX9_undo_30 : decode cX9_undo 30 = .ok (.isub, 1) := by decide +kernel
theorem dX9_undo_31 : decode cX9_undo 31 = .ok (.iastore, 1) := by decide +kernel
theorem dX9_undo_32 : decode cX9_undo 32 = .ok (.aload_n 0, 1) := by decide +kernel
theorem dX9_undo_33 : decode cX9_undo 33 = .ok (.getfield 25, 3) := by decide +kernel
theorem dX9_undo_36 : decode cX9_undo 36 = .ok (.iload_n 1, 1) := by decide +kernel
theorem dX9_undo_37 : decode cX9_undo 37 = .ok (.iaload, 1) := by decide +kernel
theorem dX9_undo_38 : decode cX9_undo 38 = .ok (.ireturn, 1) := by decide +kernel
theorem dX9_here_0 : decode cX9_here 0 = .ok (.aload_n 0, 1) := by decide +kernel
theorem dX9_here_1 : decode cX9_here 1 = .ok (.getfield 122, 3) := by decide +kernel
theorem dX9_here_4 : decode cX9_here 4 = .ok (.aload_n 0, 1) := by decide +kernel
theorem dX9_here_5 : decode cX9_here 5 = .ok (.getfield 25, 3) := by decide +kernel
theorem dX9_here_8 : decode cX9_here 8 = .ok (.iload_n 1, 1) := by decide +kernel
theorem dX9_here_9 : decode cX9_here 9 = .ok (.iaload, 1) := by decide +kernel
theorem dX9_here_10 : decode cX9_here 10 = .ok (.if_icmp .ge 20, 3) := by decide +kernel
theorem dX9_here_13 : decode cX9_here 13 = .ok (.aload_n 0, 1) := by decide +kernel
theorem dX9_here_14 : decode cX9_here 14 = .ok (.getfield 22, 3) := by decide +kernel
theorem dX9_here_17 : decode cX9_here 17 = .ok (.bipush 40, 2) := by decide +kernel
theorem dX9_here_19 : decode cX9_here 19 = .ok (.iload_n 1, 1) := by decide +kernel
theorem dX9_here_20 : decode cX9_here 20 = .ok (.imul, 1) := by decide +kernel
theorem dX9_here_21 : decode cX9_here 21 = .ok (.aload_n 0, 1) := by decide +kernel
theorem dX9_here_22 : decode cX9_here 22 = .ok (.getfield 122, 3) := by decide +kernel
theorem dX9_here_25 : decode cX9_here 25 = .ok (.iadd, 1) := by decide +kernel
theorem dX9_here_26 : decode cX9_here 26 = .ok (.iaload, 1) := by decide +kernel
theorem dX9_here_27 : decode cX9_here 27 = .ok (.goto 4, 3) := by decide +kernel
theorem dX9_here_30 : decode cX9_here 30 = .ok (.iconst (-1), 1) := by decide +kernel
theorem dX9_here_31 : decode cX9_here 31 = .ok (.ireturn, 1) := by decide +kernel
theorem dX9_tells_0 : decode cX9_tells 0 = .ok (.aload_n 0, 1) := by decide +kernel
theorem dX9_tells_1 : decode cX9_tells 1 = .ok (.iload_n 1, 1) := by decide +kernel
theorem dX9_tells_2 : decode cX9_tells 2 = .ok (.invokevirtual 125, 3) := by decide +kernel
theorem dX9_tells_5 : decode cX9_tells 5 = .ok (.istore 4, 2) := by decide +kernel
theorem dX9_tells_7 : decode cX9_tells 7 = .ok (.iload 4, 2) := by decide +kernel
theorem dX9_tells_9 : decode cX9_tells 9 = .ok (.i2l, 1) := by decide +kernel
theorem dX9_tells_10 : decode cX9_tells 10 = .ok (.ldc2_w 128, 3) := by decide +kernel
theorem dX9_tells_13 : decode cX9_tells 13 = .ok (.ldc2_w 130, 3) := by decide +kernel
theorem dX9_tells_16 : decode cX9_tells 16 = .ok (.invokestatic 88, 3) := by decide +kernel
theorem dX9_tells_19 : decode cX9_tells 19 = .ok (.ifCond .eq 11, 3) := by decide +kernel
theorem dX9_tells_22 : decode cX9_tells 22 = .ok (.iload 4, 2) := by decide +kernel
theorem dX9_tells_24 : decode cX9_tells 24 = .ok (.bipush 48, 2) := by decide +kernel
theorem dX9_tells_26 : decode cX9_tells 26 = .ok (.isub, 1) := by decide +kernel
theorem dX9_tells_27 : decode cX9_tells 27 = .ok (.goto 4, 3) := by decide +kernel
theorem dX9_tells_30 : decode cX9_tells 30 = .ok (.iconst (-1), 1) := by decide +kernel
theorem dX9_tells_31 : decode cX9_tells 31 = .ok (.istore 5, 2) := by decide +kernel
theorem dX9_tells_33 : decode cX9_tells 33 = .ok (.iload_n 1, 1) := by decide +kernel
theorem dX9_tells_34 : decode cX9_tells 34 = .ok (.ifCond .eq 8, 3) := by decide +kernel
theorem dX9_tells_37 : decode cX9_tells 37 = .ok (.iload_n 2, 1) := by decide +kernel
theorem dX9_tells_38 : decode cX9_tells 38 = .ok (.iconst 2, 1) := by decide +kernel
theorem dX9_tells_39 : decode cX9_tells 39 = .ok (.if_icmp .ne 6, 3) := by decide +kernel
theorem dX9_tells_42 : decode cX9_tells 42 = .ok (.iload 5, 2) := by decide +kernel
theorem dX9_tells_44 : decode cX9_tells 44 = .ok (.ireturn, 1) := by decide +kernel
theorem dX9_tells_45 : decode cX9_tells 45 = .ok (.iload_n 1, 1) := by decide +kernel
theorem dX9_tells_46 : decode cX9_tells 46 = .ok (.iconst 1, 1) := by decide +kernel
theorem dX9_tells_47 : decode cX9_tells 47 = .ok (.if_icmp .ne 58, 3) := by decide +kernel
theorem dX9_tells_50 : decode cX9_tells 50 = .ok (.iload_n 2, 1) := by decide +kernel
theorem dX9_tells_51 : decode cX9_tells 51 = .ok (.ifCond .ne 30, 3) := by decide +kernel
theorem dX9_tells_54 : decode cX9_tells 54 = .ok (.iload 4, 2) := by decide +kernel
theorem dX9_tells_56 : decode cX9_tells 56 = .ok (.i2l, 1) := by decide +kernel
theorem dX9_tells_57 : decode cX9_tells 57 = .ok (.ldc2_w 132, 3) := by decide +kernel
theorem dX9_tells_60 : decode cX9_tells 60 = .ok (.ldc2_w 134, 3) := by decide +kernel
theorem dX9_tells_63 : decode cX9_tells 63 = .ok (.invokestatic 88, 3) := by decide +kernel
theorem dX9_tells_66 : decode cX9_tells 66 = .ok (.ifCond .eq 11, 3) := by decide +kernel
theorem dX9_tells_69 : decode cX9_tells 69 = .ok (.iload 4, 2) := by decide +kernel
theorem dX9_tells_71 : decode cX9_tells 71 = .ok (.bipush 97, 2) := by decide +kernel
theorem dX9_tells_73 : decode cX9_tells 73 = .ok (.isub, 1) := by decide +kernel
theorem dX9_tells_74 : decode cX9_tells 74 = .ok (.goto 30, 3) := by decide +kernel
theorem dX9_tells_77 : decode cX9_tells 77 = .ok (.iconst (-1), 1) := by decide +kernel
theorem dX9_tells_78 : decode cX9_tells 78 = .ok (.goto 26, 3) := by decide +kernel
theorem dX9_tells_81 : decode cX9_tells 81 = .ok (.iload 4, 2) := by decide +kernel
theorem dX9_tells_83 : decode cX9_tells 83 = .ok (.bipush 43, 2) := by decide +kernel
theorem dX9_tells_85 : decode cX9_tells 85 = .ok (.if_icmp .ne 7, 3) := by decide +kernel
theorem dX9_tells_88 : decode cX9_tells 88 = .ok (.iconst 1, 1) := by decide +kernel
theorem dX9_tells_89 : decode cX9_tells 89 = .ok (.goto 15, 3) := by decide +kernel
theorem dX9_tells_92 : decode cX9_tells 92 = .ok (.iload 4, 2) := by decide +kernel
theorem dX9_tells_94 : decode cX9_tells 94 = .ok (.bipush 45, 2) := by decide +kernel
theorem dX9_tells_96 : decode cX9_tells 96 = .ok (.if_icmp .ne 7, 3) := by decide +kernel
theorem dX9_tells_99 : decode cX9_tells 99 = .ok (.iconst 0, 1) := by decide +kernel
theorem dX9_tells_100 : decode cX9_tells 100 = .ok (.goto 4, 3) := by decide +kernel
theorem dX9_tells_103 : decode cX9_tells 103 = .ok (.iconst (-1), 1) := by decide +kernel
theorem dX9_tells_104 : decode cX9_tells 104 = .ok (.ireturn, 1) := by decide +kernel
theorem dX9_tells_105 : decode cX9_tells 105 = .ok (.iload 4, 2) := by decide +kernel
theorem dX9_tells_107 : decode cX9_tells 107 = .ok (.i2l, 1) := by decide +kernel
theorem dX9_tells_108 : decode cX9_tells 108 = .ok (.ldc2_w 132, 3) := by decide +kernel
theorem dX9_tells_111 : decode cX9_tells 111 = .ok (.ldc2_w 136, 3) := by decide +kernel
theorem dX9_tells_114 : decode cX9_tells 114 = .ok (.invokestatic 88, 3) := by decide +kernel
theorem dX9_tells_117 : decode cX9_tells 117 = .ok (.ifCond .eq 29, 3) := by decide +kernel
theorem dX9_tells_120 : decode cX9_tells 120 = .ok (.iload_n 2, 1) := by decide +kernel
theorem dX9_tells_121 : decode cX9_tells 121 = .ok (.ifCond .eq 17, 3) := by decide +kernel
theorem dX9_tells_124 : decode cX9_tells 124 = .ok (.iload 4, 2) := by decide +kernel
theorem dX9_tells_126 : decode cX9_tells 126 = .ok (.bipush 97, 2) := by decide +kernel
theorem dX9_tells_128 : decode cX9_tells 128 = .ok (.isub, 1) := by decide +kernel
theorem dX9_tells_129 : decode cX9_tells 129 = .ok (.aload_n 0, 1) := by decide +kernel
theorem dX9_tells_130 : decode cX9_tells 130 = .ok (.getfield 31, 3) := by decide +kernel
theorem dX9_tells_133 : decode cX9_tells 133 = .ok (.iload_n 3, 1) := by decide +kernel
theorem dX9_tells_134 : decode cX9_tells 134 = .ok (.iaload, 1) := by decide +kernel
theorem dX9_tells_135 : decode cX9_tells 135 = .ok (.if_icmp .eq 11, 3) := by decide +kernel
theorem dX9_tells_138 : decode cX9_tells 138 = .ok (.iload 4, 2) := by decide +kernel
theorem dX9_tells_140 : decode cX9_tells 140 = .ok (.bipush 97, 2) := by decide +kernel
theorem dX9_tells_142 : decode cX9_tells 142 = .ok (.isub, 1) := by decide +kernel
theorem dX9_tells_143 : decode cX9_tells 143 = .ok (.goto 4, 3) := by decide +kernel
theorem dX9_tells_146 : decode cX9_tells 146 = .ok (.iconst (-1), 1) := by decide +kernel
theorem dX9_tells_147 : decode cX9_tells 147 = .ok (.ireturn, 1) := by decide +kernel
theorem dX9_readsThing_0 : decode cX9_readsThing 0 = .ok (.aload_n 0, 1) := by decide +kernel
theorem dX9_readsThing_1 : decode cX9_readsThing 1 = .ok (.getfield 28, 3) := by decide +kernel
theorem dX9_readsThing_4 : decode cX9_readsThing 4 = .ok (.iload_n 1, 1) := by decide +kernel
theorem dX9_readsThing_5 : decode cX9_readsThing 5 = .ok (.iaload, 1) := by decide +kernel
theorem dX9_readsThing_6 : decode cX9_readsThing 6 = .ok (.iload_n 1, 1) := by decide +kernel
theorem dX9_readsThing_7 : decode cX9_readsThing 7 = .ok (.ifCond .ne 7, 3) := by decide +kernel
theorem dX9_readsThing_10 : decode cX9_readsThing 10 = .ok (.iconst 4, 1) := by decide +kernel
theorem dX9_readsThing_11 : decode cX9_readsThing 11 = .ok (.goto 5, 3) := by decide +kernel
theorem dX9_readsThing_14 : decode cX9_readsThing 14 = .ok (.bipush 8, 2) := by decide +kernel
theorem dX9_readsThing_16 : decode cX9_readsThing 16 = .ok (.if_icmp .ne 5, 3) := by decide +kernel
theorem dX9_readsThing_19 : decode cX9_readsThing 19 = .ok (.iconst 0, 1) := by decide +kernel
theorem dX9_readsThing_20 : decode cX9_readsThing 20 = .ok (.ireturn, 1) := by decide +kernel
theorem dX9_readsThing_21 : decode cX9_readsThing 21 = .ok (.bipush 24, 2) := by decide +kernel
theorem dX9_readsThing_23 : decode cX9_readsThing 23 = .ok (.iload_n 1, 1) := by decide +kernel
theorem dX9_readsThing_24 : decode cX9_readsThing 24 = .ok (.imul, 1) := by decide +kernel
theorem dX9_readsThing_25 : decode cX9_readsThing 25 = .ok (.iconst 3, 1) := by decide +kernel
theorem dX9_readsThing_26 : decode cX9_readsThing 26 = .ok (.aload_n 0, 1) := by decide +kernel
theorem dX9_readsThing_27 : decode cX9_readsThing 27 = .ok (.getfield 28, 3) := by decide +kernel
theorem dX9_readsThing_30 : decode cX9_readsThing 30 = .ok (.iload_n 1, 1) := by decide +kernel
theorem dX9_readsThing_31 : decode cX9_readsThing 31 = .ok (.iaload, 1) := by decide +kernel
theorem dX9_readsThing_32 : decode cX9_readsThing 32 = .ok (.imul, 1) := by decide +kernel
theorem dX9_readsThing_33 : decode cX9_readsThing 33 = .ok (.iadd, 1) := by decide +kernel
theorem dX9_readsThing_34 : decode cX9_readsThing 34 = .ok (.istore_n 2, 1) := by decide +kernel
theorem dX9_readsThing_35 : decode cX9_readsThing 35 = .ok (.iconst 0, 1) := by decide +kernel
theorem dX9_readsThing_36 : decode cX9_readsThing 36 = .ok (.istore_n 3, 1) := by decide +kernel
theorem dX9_readsThing_37 : decode cX9_readsThing 37 = .ok (.iload_n 3, 1) := by decide +kernel
theorem dX9_readsThing_38 : decode cX9_readsThing 38 = .ok (.iconst 3, 1) := by decide +kernel
theorem dX9_readsThing_39 : decode cX9_readsThing 39 = .ok (.if_icmp .ge 46, 3) := by decide +kernel
theorem dX9_readsThing_42 : decode cX9_readsThing 42 = .ok (.aload_n 0, 1) := by decide +kernel
theorem dX9_readsThing_43 : decode cX9_readsThing 43 = .ok (.iload_n 1, 1) := by decide +kernel
theorem dX9_readsThing_44 : decode cX9_readsThing 44 = .ok (.iload_n 3, 1) := by decide +kernel
theorem dX9_readsThing_45 : decode cX9_readsThing 45 = .ok (.iload_n 2, 1) := by decide +kernel
theorem dX9_readsThing_46 : decode cX9_readsThing 46 = .ok (.invokevirtual 138, 3) := by decide +kernel
theorem dX9_readsThing_49 : decode cX9_readsThing 49 = .ok (.istore 4, 2) := by decide +kernel
theorem dX9_readsThing_51 : decode cX9_readsThing 51 = .ok (.iload 4, 2) := by decide +kernel
theorem dX9_readsThing_53 : decode cX9_readsThing 53 = .ok (.iconst (-1), 1) := by decide +kernel
theorem dX9_readsThing_54 : decode cX9_readsThing 54 = .ok (.if_icmp .ne 5, 3) := by decide +kernel
theorem dX9_readsThing_57 : decode cX9_readsThing 57 = .ok (.iconst 0, 1) := by decide +kernel
theorem dX9_readsThing_58 : decode cX9_readsThing 58 = .ok (.ireturn, 1) := by decide +kernel
theorem dX9_readsThing_59 : decode cX9_readsThing 59 = .ok (.aload_n 0, 1) := by decide +kernel
theorem dX9_readsThing_60 : decode cX9_readsThing 60 = .ok (.getfield 31, 3) := by decide +kernel
theorem dX9_readsThing_63 : decode cX9_readsThing 63 = .ok (.iload_n 2, 1) := by decide +kernel
theorem dX9_readsThing_64 : decode cX9_readsThing 64 = .ok (.iload_n 3, 1) := by decide +kernel
theorem dX9_readsThing_65 : decode cX9_readsThing 65 = .ok (.iadd, 1) := by decide +kernel
theorem dX9_readsThing_66 : decode cX9_readsThing 66 = .ok (.iload 4, 2) := by decide +kernel
theorem dX9_readsThing_68 : decode cX9_readsThing 68 = .ok (.iastore, 1) := by decide +kernel
theorem dX9_readsThing_69 : decode cX9_readsThing 69 = .ok (.aload_n 0, 1) := by decide +kernel
theorem dX9_readsThing_70 : decode cX9_readsThing 70 = .ok (.dup, 1) := by decide +kernel
theorem dX9_readsThing_71 : decode cX9_readsThing 71 = .ok (.getfield 122, 3) := by decide +kernel
theorem dX9_readsThing_74 : decode cX9_readsThing 74 = .ok (.iconst 1, 1) := by decide +kernel
theorem dX9_readsThing_75 : decode cX9_readsThing 75 = .ok (.iadd, 1) := by decide +kernel
theorem dX9_readsThing_76 : decode cX9_readsThing 76 = .ok (.putfield 122, 3) := by decide +kernel
theorem dX9_readsThing_79 : decode cX9_readsThing 79 = .ok (.iinc 3 1, 3) := by decide +kernel
theorem dX9_readsThing_82 : decode cX9_readsThing 82 = .ok (.goto (-45), 3) := by decide +kernel
theorem dX9_readsThing_85 : decode cX9_readsThing 85 = .ok (.aload_n 0, 1) := by decide +kernel
theorem dX9_readsThing_86 : decode cX9_readsThing 86 = .ok (.getfield 28, 3) := by decide +kernel
theorem dX9_readsThing_89 : decode cX9_readsThing 89 = .ok (.iload_n 1, 1) := by decide +kernel
theorem dX9_readsThing_90 : decode cX9_readsThing 90 = .ok (.dup2, 1) := by decide +kernel
theorem dX9_readsThing_91 : decode cX9_readsThing 91 = .ok (.iaload, 1) := by decide +kernel
theorem dX9_readsThing_92 : decode cX9_readsThing 92 = .ok (.iconst 1, 1) := by decide +kernel
theorem dX9_readsThing_93 : decode cX9_readsThing 93 = .ok (.iadd, 1) := by decide +kernel
theorem dX9_readsThing_94 : decode cX9_readsThing 94 = .ok (.iastore, 1) := by decide +kernel
theorem dX9_readsThing_95 : decode cX9_readsThing 95 = .ok (.iconst 1, 1) := by decide +kernel
theorem dX9_readsThing_96 : decode cX9_readsThing 96 = .ok (.ireturn, 1) := by decide +kernel
theorem dX9_readsText_0 : decode cX9_readsText 0 = .ok (.aload_n 0, 1) := by decide +kernel
theorem dX9_readsText_1 : decode cX9_readsText 1 = .ok (.iconst 0, 1) := by decide +kernel
theorem dX9_readsText_2 : decode cX9_readsText 2 = .ok (.putfield 122, 3) := by decide +kernel
theorem dX9_readsText_5 : decode cX9_readsText 5 = .ok (.aload_n 0, 1) := by decide +kernel
theorem dX9_readsText_6 : decode cX9_readsText 6 = .ok (.getfield 28, 3) := by decide +kernel
theorem dX9_readsText_9 : decode cX9_readsText 9 = .ok (.iload_n 1, 1) := by decide +kernel
theorem dX9_readsText_10 : decode cX9_readsText 10 = .ok (.iconst 0, 1) := by decide +kernel
theorem dX9_readsText_11 : decode cX9_readsText 11 = .ok (.iastore, 1) := by decide +kernel
theorem dX9_readsText_12 : decode cX9_readsText 12 = .ok (.aload_n 0, 1) := by decide +kernel
theorem dX9_readsText_13 : decode cX9_readsText 13 = .ok (.getfield 25, 3) := by decide +kernel
theorem dX9_readsText_16 : decode cX9_readsText 16 = .ok (.iload_n 1, 1) := by decide +kernel
theorem dX9_readsText_17 : decode cX9_readsText 17 = .ok (.iaload, 1) := by decide +kernel
theorem dX9_readsText_18 : decode cX9_readsText 18 = .ok (.ifCond .le 7, 3) := by decide +kernel
theorem dX9_readsText_21 : decode cX9_readsText 21 = .ok (.iconst 1, 1) := by decide +kernel
theorem dX9_readsText_22 : decode cX9_readsText 22 = .ok (.goto 4, 3) := by decide +kernel
theorem dX9_readsText_25 : decode cX9_readsText 25 = .ok (.iconst 0, 1) := by decide +kernel
theorem dX9_readsText_26 : decode cX9_readsText 26 = .ok (.istore_n 2, 1) := by decide +kernel
theorem dX9_readsText_27 : decode cX9_readsText 27 = .ok (.iload_n 2, 1) := by decide +kernel
theorem dX9_readsText_28 : decode cX9_readsText 28 = .ok (.ifCond .eq 83, 3) := by decide +kernel
theorem dX9_readsText_31 : decode cX9_readsText 31 = .ok (.aload_n 0, 1) := by decide +kernel
theorem dX9_readsText_32 : decode cX9_readsText 32 = .ok (.iload_n 1, 1) := by decide +kernel
theorem dX9_readsText_33 : decode cX9_readsText 33 = .ok (.invokevirtual 141, 3) := by decide +kernel
theorem dX9_readsText_36 : decode cX9_readsText 36 = .ok (.istore_n 3, 1) := by decide +kernel
theorem dX9_readsText_37 : decode cX9_readsText 37 = .ok (.iload_n 3, 1) := by decide +kernel
theorem dX9_readsText_38 : decode cX9_readsText 38 = .ok (.ifCond .eq 20, 3) := by decide +kernel
theorem dX9_readsText_41 : decode cX9_readsText 41 = .ok (.aload_n 0, 1) := by decide +kernel
theorem dX9_readsText_42 : decode cX9_readsText 42 = .ok (.getfield 122, 3) := by decide +kernel
theorem dX9_readsText_45 : decode cX9_readsText 45 = .ok (.aload_n 0, 1) := by decide +kernel
theorem dX9_readsText_46 : decode cX9_readsText 46 = .ok (.getfield 25, 3) := by decide +kernel
theorem dX9_readsText_49 : decode cX9_readsText 49 = .ok (.iload_n 1, 1) := by decide +kernel
theorem dX9_readsText_50 : decode cX9_readsText 50 = .ok (.iaload, 1) := by decide +kernel
theorem dX9_readsText_51 : decode cX9_readsText 51 = .ok (.if_icmp .ge 7, 3) := by decide +kernel
theorem dX9_readsText_54 : decode cX9_readsText 54 = .ok (.iconst 1, 1) := by decide +kernel
theorem dX9_readsText_55 : decode cX9_readsText 55 = .ok (.goto 4, 3) := by decide +kernel
theorem dX9_readsText_58 : decode cX9_readsText 58 = .ok (.iconst 0, 1) := by decide +kernel
theorem dX9_readsText_59 : decode cX9_readsText 59 = .ok (.istore_n 2, 1) := by decide +kernel
theorem dX9_readsText_60 : decode cX9_readsText 60 = .ok (.iload_n 3, 1) := by decide +kernel
theorem dX9_readsText_61 : decode cX9_readsText 61 = .ok (.ifCond .eq 17, 3) := by decide +kernel
theorem dX9_readsText_64 : decode cX9_readsText 64 = .ok (.iload_n 2, 1) := by decide +kernel
theorem dX9_readsText_65 : decode cX9_readsText 65 = .ok (.ifCond .eq 25, 3) := by decide +kernel
theorem dX9_readsText_68 : decode cX9_readsText 68 = .ok (.aload_n 0, 1) := by decide +kernel
theorem dX9_readsText_69 : decode cX9_readsText 69 = .ok (.iload_n 1, 1) := by decide +kernel
theorem dX9_readsText_70 : decode cX9_readsText 70 = .ok (.invokevirtual 125, 3) := by decide +kernel
theorem dX9_readsText_73 : decode cX9_readsText 73 = .ok (.bipush 59, 2) := by decide +kernel
theorem dX9_readsText_75 : decode cX9_readsText 75 = .ok (.if_icmp .eq 15, 3) := by decide +kernel
theorem dX9_readsText_78 : decode cX9_readsText 78 = .ok (.aload_n 0, 1) := by decide +kernel
theorem dX9_readsText_79 : decode cX9_readsText 79 = .ok (.getfield 28, 3) := by decide +kernel
theorem dX9_readsText_82 : decode cX9_readsText 82 = .ok (.iload_n 1, 1) := by decide +kernel
theorem dX9_readsText_83 : decode cX9_readsText 83 = .ok (.iconst 0, 1) := by decide +kernel
theorem dX9_readsText_84 : decode cX9_readsText 84 = .ok (.iastore, 1) := by decide +kernel
theorem dX9_readsText_85 : decode cX9_readsText 85 = .ok (.aload_n 0, 1) := by decide +kernel
theorem dX9_readsText_86 : decode cX9_readsText 86 = .ok (.getfield 122, 3) := by decide +kernel
theorem dX9_readsText_89 : decode cX9_readsText 89 = .ok (.ireturn, 1) := by decide +kernel
theorem dX9_readsText_90 : decode cX9_readsText 90 = .ok (.aload_n 0, 1) := by decide +kernel
theorem dX9_readsText_91 : decode cX9_readsText 91 = .ok (.dup, 1) := by decide +kernel
theorem dX9_readsText_92 : decode cX9_readsText 92 = .ok (.getfield 122, 3) := by decide +kernel
theorem dX9_readsText_95 : decode cX9_readsText 95 = .ok (.iload_n 2, 1) := by decide +kernel
theorem dX9_readsText_96 : decode cX9_readsText 96 = .ok (.ifCond .eq 7, 3) := by decide +kernel
theorem dX9_readsText_99 : decode cX9_readsText 99 = .ok (.iconst 1, 1) := by decide +kernel
theorem dX9_readsText_100 : decode cX9_readsText 100 = .ok (.goto 4, 3) := by decide +kernel
theorem dX9_readsText_103 : decode cX9_readsText 103 = .ok (.iconst 0, 1) := by decide +kernel
theorem dX9_readsText_104 : decode cX9_readsText 104 = .ok (.iadd, 1) := by decide +kernel
theorem dX9_readsText_105 : decode cX9_readsText 105 = .ok (.putfield 122, 3) := by decide +kernel
theorem dX9_readsText_108 : decode cX9_readsText 108 = .ok (.goto (-81), 3) := by decide +kernel
theorem dX9_readsText_111 : decode cX9_readsText 111 = .ok (.iconst (-1), 1) := by decide +kernel
theorem dX9_readsText_112 : decode cX9_readsText 112 = .ok (.ireturn, 1) := by decide +kernel
theorem dX9_reads_0 : decode cX9_reads 0 = .ok (.iconst 0, 1) := by decide +kernel
theorem dX9_reads_1 : decode cX9_reads 1 = .ok (.istore_n 1, 1) := by decide +kernel
theorem dX9_reads_2 : decode cX9_reads 2 = .ok (.iload_n 1, 1) := by decide +kernel
theorem dX9_reads_3 : decode cX9_reads 3 = .ok (.iconst 3, 1) := by decide +kernel
theorem dX9_reads_4 : decode cX9_reads 4 = .ok (.if_icmp .ge 15, 3) := by decide +kernel
theorem dX9_reads_7 : decode cX9_reads 7 = .ok (.aload_n 0, 1) := by decide +kernel
theorem dX9_reads_8 : decode cX9_reads 8 = .ok (.iload_n 1, 1) := by decide +kernel
theorem dX9_reads_9 : decode cX9_reads 9 = .ok (.invokevirtual 144, 3) := by decide +kernel
theorem dX9_reads_12 : decode cX9_reads 12 = .ok (.pop, 1) := by decide +kernel
theorem dX9_reads_13 : decode cX9_reads 13 = .ok (.iinc 1 1, 3) := by decide +kernel
theorem dX9_reads_16 : decode cX9_reads 16 = .ok (.goto (-14), 3) := by decide +kernel
theorem dX9_reads_19 : decode cX9_reads 19 = .ok (.return_, 1) := by decide +kernel
theorem dX9_fault_0 : decode cX9_fault 0 = .ok (.iload_n 1, 1) := by decide +kernel
theorem dX9_fault_1 : decode cX9_fault 1 = .ok (.invokestatic 117, 3) := by decide +kernel
theorem dX9_fault_4 : decode cX9_fault 4 = .ok (.ifCond .eq 11, 3) := by decide +kernel
theorem dX9_fault_7 : decode cX9_fault 7 = .ok (.aload_n 0, 1) := by decide +kernel
theorem dX9_fault_8 : decode cX9_fault 8 = .ok (.iload_n 1, 1) := by decide +kernel
theorem dX9_fault_9 : decode cX9_fault 9 = .ok (.invokevirtual 144, 3) := by decide +kernel
theorem dX9_fault_12 : decode cX9_fault 12 = .ok (.goto 5, 3) := by decide +kernel
theorem dX9_fault_15 : decode cX9_fault 15 = .ok (.bipush (-2), 2) := by decide +kernel
theorem dX9_fault_17 : decode cX9_fault 17 = .ok (.ireturn, 1) := by decide +kernel
theorem dX9_isParty_0 : decode cX9_isParty 0 = .ok (.iload_n 1, 1) := by decide +kernel
theorem dX9_isParty_1 : decode cX9_isParty 1 = .ok (.i2l, 1) := by decide +kernel
theorem dX9_isParty_2 : decode cX9_isParty 2 = .ok (.lconst 0, 1) := by decide +kernel
theorem dX9_isParty_3 : decode cX9_isParty 3 = .ok (.aload_n 0, 1) := by decide +kernel
theorem dX9_isParty_4 : decode cX9_isParty 4 = .ok (.getfield 28, 3) := by decide +kernel
theorem dX9_isParty_7 : decode cX9_isParty 7 = .ok (.iconst 0, 1) := by decide +kernel
theorem dX9_isParty_8 : decode cX9_isParty 8 = .ok (.iaload, 1) := by decide +kernel
theorem dX9_isParty_9 : decode cX9_isParty 9 = .ok (.iconst 1, 1) := by decide +kernel
theorem dX9_isParty_10 : decode cX9_isParty 10 = .ok (.isub, 1) := by decide +kernel
theorem dX9_isParty_11 : decode cX9_isParty 11 = .ok (.i2l, 1) := by decide +kernel
theorem dX9_isParty_12 : decode cX9_isParty 12 = .ok (.invokestatic 88, 3) := by decide +kernel
theorem dX9_isParty_15 : decode cX9_isParty 15 = .ok (.ireturn, 1) := by decide +kernel
theorem dX9_isVoter_0 : decode cX9_isVoter 0 = .ok (.iload_n 1, 1) := by decide +kernel
theorem dX9_isVoter_1 : decode cX9_isVoter 1 = .ok (.i2l, 1) := by decide +kernel
theorem dX9_isVoter_2 : decode cX9_isVoter 2 = .ok (.lconst 0, 1) := by decide +kernel
theorem dX9_isVoter_3 : decode cX9_isVoter 3 = .ok (.aload_n 0, 1) := by decide +kernel
theorem dX9_isVoter_4 : decode cX9_isVoter 4 = .ok (.getfield 28, 3) := by decide +kernel
theorem dX9_isVoter_7 : decode cX9_isVoter 7 = .ok (.iconst 1, 1) := by decide +kernel
theorem dX9_isVoter_8 : decode cX9_isVoter 8 = .ok (.iaload, 1) := by decide +kernel
theorem dX9_isVoter_9 : decode cX9_isVoter 9 = .ok (.iconst 1, 1) := by decide +kernel
theorem dX9_isVoter_10 : decode cX9_isVoter 10 = .ok (.isub, 1) := by decide +kernel
theorem dX9_isVoter_11 : decode cX9_isVoter 11 = .ok (.i2l, 1) := by decide +kernel
theorem dX9_isVoter_12 : decode cX9_isVoter 12 = .ok (.invokestatic 88, 3) := by decide +kernel
theorem dX9_isVoter_15 : decode cX9_isVoter 15 = .ok (.ireturn, 1) := by decide +kernel
theorem dX9_isYear_0 : decode cX9_isYear 0 = .ok (.iload_n 0, 1) := by decide +kernel
theorem dX9_isYear_1 : decode cX9_isYear 1 = .ok (.i2l, 1) := by decide +kernel
theorem dX9_isYear_2 : decode cX9_isYear 2 = .ok (.lconst 0, 1) := by decide +kernel
theorem dX9_isYear_3 : decode cX9_isYear 3 = .ok (.ldc2_w 147, 3) := by decide +kernel
theorem dX9_isYear_6 : decode cX9_isYear 6 = .ok (.invokestatic 88, 3) := by decide +kernel
theorem dX9_isYear_9 : decode cX9_isYear 9 = .ok (.ireturn, 1) := by decide +kernel
theorem dX9_isUnit_0 : decode cX9_isUnit 0 = .ok (.iload_n 0, 1) := by decide +kernel
theorem dX9_isUnit_1 : decode cX9_isUnit 1 = .ok (.i2l, 1) := by decide +kernel
theorem dX9_isUnit_2 : decode cX9_isUnit 2 = .ok (.lconst 0, 1) := by decide +kernel
theorem dX9_isUnit_3 : decode cX9_isUnit 3 = .ok (.ldc2_w 102, 3) := by decide +kernel
theorem dX9_isUnit_6 : decode cX9_isUnit 6 = .ok (.invokestatic 88, 3) := by decide +kernel
theorem dX9_isUnit_9 : decode cX9_isUnit 9 = .ok (.ireturn, 1) := by decide +kernel
theorem dX9_isAnyVoter_0 : decode cX9_isAnyVoter 0 = .ok (.iload_n 0, 1) := by decide +kernel
theorem dX9_isAnyVoter_1 : decode cX9_isAnyVoter 1 = .ok (.i2l, 1) := by decide +kernel
theorem dX9_isAnyVoter_2 : decode cX9_isAnyVoter 2 = .ok (.lconst 0, 1) := by decide +kernel
theorem dX9_isAnyVoter_3 : decode cX9_isAnyVoter 3 = .ok (.ldc2_w 149, 3) := by decide +kernel
theorem dX9_isAnyVoter_6 : decode cX9_isAnyVoter 6 = .ok (.invokestatic 88, 3) := by decide +kernel
theorem dX9_isAnyVoter_9 : decode cX9_isAnyVoter 9 = .ok (.ireturn, 1) := by decide +kernel
theorem dX9_voter_0 : decode cX9_voter 0 = .ok (.aload_n 0, 1) := by decide +kernel
theorem dX9_voter_1 : decode cX9_voter 1 = .ok (.invokevirtual 151, 3) := by decide +kernel
theorem dX9_voter_4 : decode cX9_voter 4 = .ok (.aload_n 0, 1) := by decide +kernel
theorem dX9_voter_5 : decode cX9_voter 5 = .ok (.iload_n 1, 1) := by decide +kernel
theorem dX9_voter_6 : decode cX9_voter 6 = .ok (.invokevirtual 154, 3) := by decide +kernel
theorem dX9_voter_9 : decode cX9_voter 9 = .ok (.ifCond .eq 31, 3) := by decide +kernel
theorem dX9_voter_12 : decode cX9_voter 12 = .ok (.iload_n 2, 1) := by decide +kernel
theorem dX9_voter_13 : decode cX9_voter 13 = .ok (.i2l, 1) := by decide +kernel
theorem dX9_voter_14 : decode cX9_voter 14 = .ok (.lconst 0, 1) := by decide +kernel
theorem dX9_voter_15 : decode cX9_voter 15 = .ok (.ldc2_w 102, 3) := by decide +kernel
theorem dX9_voter_18 : decode cX9_voter 18 = .ok (.invokestatic 88, 3) := by decide +kernel
theorem dX9_voter_21 : decode cX9_voter 21 = .ok (.ifCond .eq 19, 3) := by decide +kernel
theorem dX9_voter_24 : decode cX9_voter 24 = .ok (.aload_n 0, 1) := by decide +kernel
theorem dX9_voter_25 : decode cX9_voter 25 = .ok (.getfield 31, 3) := by decide +kernel
theorem dX9_voter_28 : decode cX9_voter 28 = .ok (.bipush 24, 2) := by decide +kernel
theorem dX9_voter_30 : decode cX9_voter 30 = .ok (.iconst 3, 1) := by decide +kernel
theorem dX9_voter_31 : decode cX9_voter 31 = .ok (.iload_n 1, 1) := by decide +kernel
theorem dX9_voter_32 : decode cX9_voter 32 = .ok (.imul, 1) := by decide +kernel
theorem dX9_voter_33 : decode cX9_voter 33 = .ok (.iadd, 1) := by decide +kernel
theorem dX9_voter_34 : decode cX9_voter 34 = .ok (.iload_n 2, 1) := by decide +kernel
theorem dX9_voter_35 : decode cX9_voter 35 = .ok (.iadd, 1) := by decide +kernel
theorem dX9_voter_36 : decode cX9_voter 36 = .ok (.iaload, 1) := by decide +kernel
theorem dX9_voter_37 : decode cX9_voter 37 = .ok (.goto 5, 3) := by decide +kernel
theorem dX9_voter_40 : decode cX9_voter 40 = .ok (.bipush (-2), 2) := by decide +kernel
theorem dX9_voter_42 : decode cX9_voter 42 = .ok (.ireturn, 1) := by decide +kernel
theorem dX9_set_0 : decode cX9_set 0 = .ok (.iload_n 1, 1) := by decide +kernel
theorem dX9_set_1 : decode cX9_set 1 = .ok (.invokestatic 157, 3) := by decide +kernel
theorem dX9_set_4 : decode cX9_set 4 = .ok (.ifCond .eq 23, 3) := by decide +kernel
theorem dX9_set_7 : decode cX9_set 7 = .ok (.iload_n 2, 1) := by decide +kernel
theorem dX9_set_8 : decode cX9_set 8 = .ok (.i2l, 1) := by decide +kernel
theorem dX9_set_9 : decode cX9_set 9 = .ok (.lconst 0, 1) := by decide +kernel
theorem dX9_set_10 : decode cX9_set 10 = .ok (.iload_n 1, 1) := by decide +kernel
theorem dX9_set_11 : decode cX9_set 11 = .ok (.ifCond .ne 9, 3) := by decide +kernel
theorem dX9_set_14 : decode cX9_set 14 = .ok (.ldc2_w 102, 3) := by decide +kernel
theorem dX9_set_17 : decode cX9_set 17 = .ok (.goto 4, 3) := by decide +kernel
theorem dX9_set_20 : decode cX9_set 20 = .ok (.lconst 1, 1) := by decide +kernel
theorem dX9_set_21 : decode cX9_set 21 = .ok (.invokestatic 88, 3) := by decide +kernel
theorem dX9_set_24 : decode cX9_set 24 = .ok (.ifCond .ne 6, 3) := by decide +kernel
theorem dX9_set_27 : decode cX9_set 27 = .ok (.bipush (-2), 2) := by decide +kernel
theorem dX9_set_29 : decode cX9_set 29 = .ok (.ireturn, 1) := by decide +kernel
theorem dX9_set_30 : decode cX9_set 30 = .ok (.aload_n 0, 1) := by decide +kernel
theorem dX9_set_31 : decode cX9_set 31 = .ok (.getfield 34, 3) := by decide +kernel
theorem dX9_set_34 : decode cX9_set 34 = .ok (.iload_n 1, 1) := by decide +kernel
theorem dX9_set_35 : decode cX9_set 35 = .ok (.iaload, 1) := by decide +kernel
theorem dX9_set_36 : decode cX9_set 36 = .ok (.istore_n 3, 1) := by decide +kernel
theorem dX9_set_37 : decode cX9_set 37 = .ok (.aload_n 0, 1) := by decide +kernel
theorem dX9_set_38 : decode cX9_set 38 = .ok (.getfield 34, 3) := by decide +kernel
theorem dX9_set_41 : decode cX9_set 41 = .ok (.iload_n 1, 1) := by decide +kernel
theorem dX9_set_42 : decode cX9_set 42 = .ok (.iload_n 2, 1) := by decide +kernel
theorem dX9_set_43 : decode cX9_set 43 = .ok (.iastore, 1) := by decide +kernel
theorem dX9_set_44 : decode cX9_set 44 = .ok (.iload_n 3, 1) := by decide +kernel
theorem dX9_set_45 : decode cX9_set 45 = .ok (.ireturn, 1) := by decide +kernel
theorem dX9_purse_0 : decode cX9_purse 0 = .ok (.iload_n 1, 1) := by decide +kernel
theorem dX9_purse_1 : decode cX9_purse 1 = .ok (.invokestatic 160, 3) := by decide +kernel
theorem dX9_purse_4 : decode cX9_purse 4 = .ok (.ifCond .eq 15, 3) := by decide +kernel
theorem dX9_purse_7 : decode cX9_purse 7 = .ok (.iload_n 2, 1) := by decide +kernel
theorem dX9_purse_8 : decode cX9_purse 8 = .ok (.i2l, 1) := by decide +kernel
theorem dX9_purse_9 : decode cX9_purse 9 = .ok (.lconst 0, 1) := by decide +kernel
theorem dX9_purse_10 : decode cX9_purse 10 = .ok (.ldc2_w 163, 3) := by decide +kernel
theorem dX9_purse_13 : decode cX9_purse 13 = .ok (.invokestatic 88, 3) := by decide +kernel
theorem dX9_purse_16 : decode cX9_purse 16 = .ok (.ifCond .ne 6, 3) := by decide +kernel
theorem dX9_purse_19 : decode cX9_purse 19 = .ok (.bipush (-2), 2) := by decide +kernel
theorem dX9_purse_21 : decode cX9_purse 21 = .ok (.ireturn, 1) := by decide +kernel
theorem dX9_purse_22 : decode cX9_purse 22 = .ok (.aload_n 0, 1) := by decide +kernel
theorem dX9_purse_23 : decode cX9_purse 23 = .ok (.getfield 37, 3) := by decide +kernel
theorem dX9_purse_26 : decode cX9_purse 26 = .ok (.iload_n 1, 1) := by decide +kernel
theorem dX9_purse_27 : decode cX9_purse 27 = .ok (.iaload, 1) := by decide +kernel
theorem dX9_purse_28 : decode cX9_purse 28 = .ok (.istore_n 3, 1) := by decide +kernel
theorem dX9_purse_29 : decode cX9_purse 29 = .ok (.aload_n 0, 1) := by decide +kernel
theorem dX9_purse_30 : decode cX9_purse 30 = .ok (.getfield 37, 3) := by decide +kernel
theorem dX9_purse_33 : decode cX9_purse 33 = .ok (.iload_n 1, 1) := by decide +kernel
theorem dX9_purse_34 : decode cX9_purse 34 = .ok (.iload_n 2, 1) := by decide +kernel
theorem dX9_purse_35 : decode cX9_purse 35 = .ok (.iastore, 1) := by decide +kernel
theorem dX9_purse_36 : decode cX9_purse 36 = .ok (.iload_n 3, 1) := by decide +kernel
theorem dX9_purse_37 : decode cX9_purse 37 = .ok (.ireturn, 1) := by decide +kernel
theorem dX9_change_0 : decode cX9_change 0 = .ok (.iload_n 1, 1) := by decide +kernel
theorem dX9_change_1 : decode cX9_change 1 = .ok (.invokestatic 165, 3) := by decide +kernel
theorem dX9_change_4 : decode cX9_change 4 = .ok (.ifCond .eq 35, 3) := by decide +kernel
theorem dX9_change_7 : decode cX9_change 7 = .ok (.iload_n 2, 1) := by decide +kernel
theorem dX9_change_8 : decode cX9_change 8 = .ok (.i2l, 1) := by decide +kernel
theorem dX9_change_9 : decode cX9_change 9 = .ok (.lconst 0, 1) := by decide +kernel
theorem dX9_change_10 : decode cX9_change 10 = .ok (.ldc2_w 96, 3) := by decide +kernel
theorem dX9_change_13 : decode cX9_change 13 = .ok (.invokestatic 88, 3) := by decide +kernel
theorem dX9_change_16 : decode cX9_change 16 = .ok (.ifCond .eq 23, 3) := by decide +kernel
theorem dX9_change_19 : decode cX9_change 19 = .ok (.iload_n 3, 1) := by decide +kernel
theorem dX9_change_20 : decode cX9_change 20 = .ok (.invokestatic 168, 3) := by decide +kernel
theorem dX9_change_23 : decode cX9_change 23 = .ok (.ifCond .eq 16, 3) := by decide +kernel
theorem dX9_change_26 : decode cX9_change 26 = .ok (.iload 4, 2) := by decide +kernel
theorem dX9_change_28 : decode cX9_change 28 = .ok (.i2l, 1) := by decide +kernel
theorem dX9_change_29 : decode cX9_change 29 = .ok (.lconst 1, 1) := by decide +kernel
theorem dX9_change_30 : decode cX9_change 30 = .ok (.ldc2_w 147, 3) := by decide +kernel
theorem dX9_change_33 : decode cX9_change 33 = .ok (.invokestatic 88, 3) := by decide +kernel
theorem dX9_change_36 : decode cX9_change 36 = .ok (.ifCond .ne 6, 3) := by decide +kernel
theorem dX9_change_39 : decode cX9_change 39 = .ok (.bipush (-2), 2) := by decide +kernel
theorem dX9_change_41 : decode cX9_change 41 = .ok (.ireturn, 1) := by decide +kernel
theorem dX9_change_42 : decode cX9_change 42 = .ok (.aload_n 0, 1) := by decide +kernel
theorem dX9_change_43 : decode cX9_change 43 = .ok (.getfield 171, 3) := by decide +kernel
theorem dX9_change_46 : decode cX9_change 46 = .ok (.bipush 10, 2) := by decide +kernel
theorem dX9_change_48 : decode cX9_change 48 = .ok (.if_icmp .ne 6, 3) := by decide +kernel
theorem dX9_change_51 : decode cX9_change 51 = .ok (.bipush (-4), 2) := by decide +kernel
theorem dX9_change_53 : decode cX9_change 53 = .ok (.ireturn, 1) := by decide +kernel
theorem dX9_change_54 : decode cX9_change 54 = .ok (.aload_n 0, 1) := by decide +kernel
theorem dX9_change_55 : decode cX9_change 55 = .ok (.getfield 40, 3) := by decide +kernel
theorem dX9_change_58 : decode cX9_change 58 = .ok (.iconst 4, 1) := by decide +kernel
theorem dX9_change_59 : decode cX9_change 59 = .ok (.aload_n 0, 1) := by decide +kernel
theorem dX9_change_60 : decode cX9_change 60 = .ok (.getfield 171, 3) := by decide +kernel
theorem dX9_change_63 : decode cX9_change 63 = .ok (.imul, 1) := by decide +kernel
theorem dX9_change_64 : decode cX9_change 64 = .ok (.iload_n 1, 1) := by decide +kernel
theorem dX9_change_65 : decode cX9_change 65 = .ok (.iastore, 1) := by decide +kernel
theorem dX9_change_66 : decode cX9_change 66 = .ok (.aload_n 0, 1) := by decide +kernel
theorem dX9_change_67 : decode cX9_change 67 = .ok (.getfield 40, 3) := by decide +kernel
theorem dX9_change_70 : decode cX9_change 70 = .ok (.iconst 4, 1) := by decide +kernel
theorem dX9_change_71 : decode cX9_change 71 = .ok (.aload_n 0, 1) := by decide +kernel
theorem dX9_change_72 : decode cX9_change 72 = .ok (.getfield 171, 3) := by decide +kernel
theorem dX9_change_75 : decode cX9_change 75 = .ok (.imul, 1) := by decide +kernel
theorem dX9_change_76 : decode cX9_change 76 = .ok (.iconst 1, 1) := by decide +kernel
theorem dX9_change_77 : decode cX9_change 77 = .ok (.iadd, 1) := by decide +kernel
theorem dX9_change_78 : decode cX9_change 78 = .ok (.iload_n 2, 1) := by decide +kernel
theorem dX9_change_79 : decode cX9_change 79 = .ok (.iastore, 1) := by decide +kernel
theorem dX9_change_80 : decode cX9_change 80 = .ok (.aload_n 0, 1) := by decide +kernel
theorem dX9_change_81 : decode cX9_change 81 = .ok (.getfield 40, 3) := by decide +kernel
theorem dX9_change_84 : decode cX9_change 84 = .ok (.iconst 4, 1) := by decide +kernel
theorem dX9_change_85 : decode cX9_change 85 = .ok (.aload_n 0, 1) := by decide +kernel
theorem dX9_change_86 : decode cX9_change 86 = .ok (.getfield 171, 3) := by decide +kernel
theorem dX9_change_89 : decode cX9_change 89 = .ok (.imul, 1) := by decide +kernel
theorem dX9_change_90 : decode cX9_change 90 = .ok (.iconst 2, 1) := by decide +kernel
theorem dX9_change_91 : decode cX9_change 91 = .ok (.iadd, 1) := by decide +kernel
theorem dX9_change_92 : decode cX9_change 92 = .ok (.iload_n 3, 1) := by decide +kernel
theorem dX9_change_93 : decode cX9_change 93 = .ok (.iastore, 1) := by decide +kernel
theorem dX9_change_94 : decode cX9_change 94 = .ok (.aload_n 0, 1) := by decide +kernel
theorem dX9_change_95 : decode cX9_change 95 = .ok (.getfield 40, 3) := by decide +kernel
theorem dX9_change_98 : decode cX9_change 98 = .ok (.iconst 4, 1) := by decide +kernel
theorem dX9_change_99 : decode cX9_change 99 = .ok (.aload_n 0, 1) := by decide +kernel
theorem dX9_change_100 : decode cX9_change 100 = .ok (.getfield 171, 3) := by decide +kernel
theorem dX9_change_103 : decode cX9_change 103 = .ok (.imul, 1) := by decide +kernel
theorem dX9_change_104 : decode cX9_change 104 = .ok (.iconst 3, 1) := by decide +kernel
theorem dX9_change_105 : decode cX9_change 105 = .ok (.iadd, 1) := by decide +kernel
theorem dX9_change_106 : decode cX9_change 106 = .ok (.iload 4, 2) := by decide +kernel
theorem dX9_change_108 : decode cX9_change 108 = .ok (.iastore, 1) := by decide +kernel
theorem dX9_change_109 : decode cX9_change 109 = .ok (.aload_n 0, 1) := by decide +kernel
theorem dX9_change_110 : decode cX9_change 110 = .ok (.dup, 1) := by decide +kernel
theorem dX9_change_111 : decode cX9_change 111 = .ok (.getfield 171, 3) := by decide +kernel
theorem dX9_change_114 : decode cX9_change 114 = .ok (.iconst 1, 1) := by decide +kernel
theorem dX9_change_115 : decode cX9_change 115 = .ok (.iadd, 1) := by decide +kernel
theorem dX9_change_116 : decode cX9_change 116 = .ok (.putfield 171, 3) := by decide +kernel
theorem dX9_change_119 : decode cX9_change 119 = .ok (.aload_n 0, 1) := by decide +kernel
theorem dX9_change_120 : decode cX9_change 120 = .ok (.getfield 171, 3) := by decide +kernel
theorem dX9_change_123 : decode cX9_change 123 = .ok (.ireturn, 1) := by decide +kernel
theorem dX9_ticketOf_0 : decode cX9_ticketOf 0 = .ok (.aload_n 0, 1) := by decide +kernel
theorem dX9_ticketOf_1 : decode cX9_ticketOf 1 = .ok (.getfield 31, 3) := by decide +kernel
theorem dX9_ticketOf_4 : decode cX9_ticketOf 4 = .ok (.iconst 3, 1) := by decide +kernel
theorem dX9_ticketOf_5 : decode cX9_ticketOf 5 = .ok (.iload_n 2, 1) := by decide +kernel
theorem dX9_ticketOf_6 : decode cX9_ticketOf 6 = .ok (.imul, 1) := by decide +kernel
theorem dX9_ticketOf_7 : decode cX9_ticketOf 7 = .ok (.iload_n 3, 1) := by decide +kernel
theorem dX9_ticketOf_8 : decode cX9_ticketOf 8 = .ok (.iadd, 1) := by decide +kernel
theorem dX9_ticketOf_9 : decode cX9_ticketOf 9 = .ok (.iaload, 1) := by decide +kernel
theorem dX9_ticketOf_10 : decode cX9_ticketOf 10 = .ok (.istore 4, 2) := by decide +kernel
theorem dX9_ticketOf_12 : decode cX9_ticketOf 12 = .ok (.iconst (-1), 1) := by decide +kernel
theorem dX9_ticketOf_13 : decode cX9_ticketOf 13 = .ok (.istore 5, 2) := by decide +kernel
theorem dX9_ticketOf_15 : decode cX9_ticketOf 15 = .ok (.iconst 0, 1) := by decide +kernel
theorem dX9_ticketOf_16 : decode cX9_ticketOf 16 = .ok (.istore 6, 2) := by decide +kernel
theorem dX9_ticketOf_18 : decode cX9_ticketOf 18 = .ok (.iload 6, 2) := by decide +kernel
theorem dX9_ticketOf_20 : decode cX9_ticketOf 20 = .ok (.aload_n 0, 1) := by decide +kernel
theorem dX9_ticketOf_21 : decode cX9_ticketOf 21 = .ok (.getfield 171, 3) := by decide +kernel
theorem dX9_ticketOf_24 : decode cX9_ticketOf 24 = .ok (.if_icmp .ge 96, 3) := by decide +kernel
theorem dX9_ticketOf_27 : decode cX9_ticketOf 27 = .ok (.aload_n 0, 1) := by decide +kernel
theorem dX9_ticketOf_28 : decode cX9_ticketOf 28 = .ok (.getfield 40, 3) := by decide +kernel
theorem dX9_ticketOf_31 : decode cX9_ticketOf 31 = .ok (.iconst 4, 1) := by decide +kernel
theorem dX9_ticketOf_32 : decode cX9_ticketOf 32 = .ok (.iload 6, 2) := by decide +kernel
theorem dX9_ticketOf_34 : decode cX9_ticketOf 34 = .ok (.imul, 1) := by decide +kernel
theorem dX9_ticketOf_35 : decode cX9_ticketOf 35 = .ok (.iconst 1, 1) := by decide +kernel
theorem dX9_ticketOf_36 : decode cX9_ticketOf 36 = .ok (.iadd, 1) := by decide +kernel
theorem dX9_ticketOf_37 : decode cX9_ticketOf 37 = .ok (.iaload, 1) := by decide +kernel
theorem dX9_ticketOf_38 : decode cX9_ticketOf 38 = .ok (.iload_n 2, 1) := by decide +kernel
theorem dX9_ticketOf_39 : decode cX9_ticketOf 39 = .ok (.if_icmp .ne 22, 3) := by decide +kernel
theorem dX9_ticketOf_42 : decode cX9_ticketOf 42 = .ok (.aload_n 0, 1) := by decide +kernel
theorem dX9_ticketOf_43 : decode cX9_ticketOf 43 = .ok (.getfield 40, 3) := by decide +kernel
theorem dX9_ticketOf_46 : decode cX9_ticketOf 46 = .ok (.iconst 4, 1) := by decide +kernel
theorem dX9_ticketOf_47 : decode cX9_ticketOf 47 = .ok (.iload 6, 2) := by decide +kernel
theorem dX9_ticketOf_49 : decode cX9_ticketOf 49 = .ok (.imul, 1) := by decide +kernel
theorem dX9_ticketOf_50 : decode cX9_ticketOf 50 = .ok (.iconst 2, 1) := by decide +kernel
theorem dX9_ticketOf_51 : decode cX9_ticketOf 51 = .ok (.iadd, 1) := by decide +kernel
theorem dX9_ticketOf_52 : decode cX9_ticketOf 52 = .ok (.iaload, 1) := by decide +kernel
theorem dX9_ticketOf_53 : decode cX9_ticketOf 53 = .ok (.iload_n 3, 1) := by decide +kernel
theorem dX9_ticketOf_54 : decode cX9_ticketOf 54 = .ok (.if_icmp .ne 7, 3) := by decide +kernel
theorem dX9_ticketOf_57 : decode cX9_ticketOf 57 = .ok (.iconst 1, 1) := by decide +kernel
theorem dX9_ticketOf_58 : decode cX9_ticketOf 58 = .ok (.goto 4, 3) := by decide +kernel
theorem dX9_ticketOf_61 : decode cX9_ticketOf 61 = .ok (.iconst 0, 1) := by decide +kernel
theorem dX9_ticketOf_62 : decode cX9_ticketOf 62 = .ok (.istore 7, 2) := by decide +kernel
theorem dX9_ticketOf_64 : decode cX9_ticketOf 64 = .ok (.iload 7, 2) := by decide +kernel
theorem dX9_ticketOf_66 : decode cX9_ticketOf 66 = .ok (.ifCond .eq 48, 3) := by decide +kernel
theorem dX9_ticketOf_69 : decode cX9_ticketOf 69 = .ok (.aload_n 0, 1) := by decide +kernel
theorem dX9_ticketOf_70 : decode cX9_ticketOf 70 = .ok (.getfield 40, 3) := by decide +kernel
theorem dX9_ticketOf_73 : decode cX9_ticketOf 73 = .ok (.iconst 4, 1) := by decide +kernel
theorem dX9_ticketOf_74 : decode cX9_ticketOf 74 = .ok (.iload 6, 2) := by decide +kernel
theorem dX9_ticketOf_76 : decode cX9_ticketOf 76 = .ok (.imul, 1) := by decide +kernel
theorem dX9_ticketOf_77 : decode cX9_ticketOf 77 = .ok (.iaload, 1) := by decide +kernel
theorem dX9_ticketOf_78 : decode cX9_ticketOf 78 = .ok (.i2l, 1) := by decide +kernel
theorem dX9_ticketOf_79 : decode cX9_ticketOf 79 = .ok (.iload 5, 2) := by decide +kernel
theorem dX9_ticketOf_81 : decode cX9_ticketOf 81 = .ok (.i2l, 1) := by decide +kernel
theorem dX9_ticketOf_82 : decode cX9_ticketOf 82 = .ok (.iload_n 1, 1) := by decide +kernel
theorem dX9_ticketOf_83 : decode cX9_ticketOf 83 = .ok (.i2l, 1) := by decide +kernel
theorem dX9_ticketOf_84 : decode cX9_ticketOf 84 = .ok (.invokestatic 88, 3) := by decide +kernel
theorem dX9_ticketOf_87 : decode cX9_ticketOf 87 = .ok (.ifCond .eq 27, 3) := by decide +kernel
theorem dX9_ticketOf_90 : decode cX9_ticketOf 90 = .ok (.aload_n 0, 1) := by decide +kernel
theorem dX9_ticketOf_91 : decode cX9_ticketOf 91 = .ok (.getfield 40, 3) := by decide +kernel
theorem dX9_ticketOf_94 : decode cX9_ticketOf 94 = .ok (.iconst 4, 1) := by decide +kernel
theorem dX9_ticketOf_95 : decode cX9_ticketOf 95 = .ok (.iload 6, 2) := by decide +kernel
theorem dX9_ticketOf_97 : decode cX9_ticketOf 97 = .ok (.imul, 1) := by decide +kernel
theorem dX9_ticketOf_98 : decode cX9_ticketOf 98 = .ok (.iaload, 1) := by decide +kernel
theorem dX9_ticketOf_99 : decode cX9_ticketOf 99 = .ok (.istore 5, 2) := by decide +kernel
theorem dX9_ticketOf_101 : decode cX9_ticketOf 101 = .ok (.aload_n 0, 1) := by decide +kernel
theorem dX9_ticketOf_102 : decode cX9_ticketOf 102 = .ok (.getfield 40, 3) := by decide +kernel
theorem dX9_ticketOf_105 : decode cX9_ticketOf 105 = .ok (.iconst 4, 1) := by decide +kernel
theorem dX9_ticketOf_106 : decode cX9_ticketOf 106 = .ok (.iload 6, 2) := by decide +kernel
theorem dX9_ticketOf_108 : decode cX9_ticketOf 108 = .ok (.imul, 1) := by decide +kernel
theorem dX9_ticketOf_109 : decode cX9_ticketOf 109 = .ok (.iconst 3, 1) := by decide +kernel
theorem dX9_ticketOf_110 : decode cX9_ticketOf 110 = .ok (.iadd, 1) := by decide +kernel
theorem dX9_ticketOf_111 : decode cX9_ticketOf 111 = .ok (.iaload, 1) := by decide +kernel
theorem dX9_ticketOf_112 : decode cX9_ticketOf 112 = .ok (.istore 4, 2) := by decide +kernel
theorem dX9_ticketOf_114 : decode cX9_ticketOf 114 = .ok (.iinc 6 1, 3) := by decide +kernel
theorem dX9_ticketOf_117 : decode cX9_ticketOf 117 = .ok (.goto (-99), 3) := by decide +kernel
theorem dX9_ticketOf_120 : decode cX9_ticketOf 120 = .ok (.iload 4, 2) := by decide +kernel
theorem dX9_ticketOf_122 : decode cX9_ticketOf 122 = .ok (.ireturn, 1) := by decide +kernel
theorem dX9_ticket_0 : decode cX9_ticket 0 = .ok (.aload_n 0, 1) := by decide +kernel
theorem dX9_ticket_1 : decode cX9_ticket 1 = .ok (.invokevirtual 151, 3) := by decide +kernel
theorem dX9_ticket_4 : decode cX9_ticket 4 = .ok (.iload_n 1, 1) := by decide +kernel
theorem dX9_ticket_5 : decode cX9_ticket 5 = .ok (.invokestatic 165, 3) := by decide +kernel
theorem dX9_ticket_8 : decode cX9_ticket 8 = .ok (.ifCond .eq 28, 3) := by decide +kernel
theorem dX9_ticket_11 : decode cX9_ticket 11 = .ok (.aload_n 0, 1) := by decide +kernel
theorem dX9_ticket_12 : decode cX9_ticket 12 = .ok (.iload_n 2, 1) := by decide +kernel
theorem dX9_ticket_13 : decode cX9_ticket 13 = .ok (.invokevirtual 174, 3) := by decide +kernel
theorem dX9_ticket_16 : decode cX9_ticket 16 = .ok (.ifCond .eq 20, 3) := by decide +kernel
theorem dX9_ticket_19 : decode cX9_ticket 19 = .ok (.iload_n 3, 1) := by decide +kernel
theorem dX9_ticket_20 : decode cX9_ticket 20 = .ok (.invokestatic 168, 3) := by decide +kernel
theorem dX9_ticket_23 : decode cX9_ticket 23 = .ok (.ifCond .eq 13, 3) := by decide +kernel
theorem dX9_ticket_26 : decode cX9_ticket 26 = .ok (.aload_n 0, 1) := by decide +kernel
theorem dX9_ticket_27 : decode cX9_ticket 27 = .ok (.iload_n 1, 1) := by decide +kernel
theorem dX9_ticket_28 : decode cX9_ticket 28 = .ok (.iload_n 2, 1) := by decide +kernel
theorem dX9_ticket_29 : decode cX9_ticket 29 = .ok (.iload_n 3, 1) := by decide +kernel
theorem dX9_ticket_30 : decode cX9_ticket 30 = .ok (.invokevirtual 177, 3) := by decide +kernel
theorem dX9_ticket_33 : decode cX9_ticket 33 = .ok (.goto 5, 3) := by decide +kernel
theorem dX9_ticket_36 : decode cX9_ticket 36 = .ok (.bipush (-2), 2) := by decide +kernel
theorem dX9_ticket_38 : decode cX9_ticket 38 = .ok (.ireturn, 1) := by decide +kernel
theorem dX9_unitOf_0 : decode cX9_unitOf 0 = .ok (.aload_n 0, 1) := by decide +kernel
theorem dX9_unitOf_1 : decode cX9_unitOf 1 = .ok (.getfield 31, 3) := by decide +kernel
theorem dX9_unitOf_4 : decode cX9_unitOf 4 = .ok (.bipush 24, 2) := by decide +kernel
theorem dX9_unitOf_6 : decode cX9_unitOf 6 = .ok (.iconst 3, 1) := by decide +kernel
theorem dX9_unitOf_7 : decode cX9_unitOf 7 = .ok (.iload_n 1, 1) := by decide +kernel
theorem dX9_unitOf_8 : decode cX9_unitOf 8 = .ok (.imul, 1) := by decide +kernel
theorem dX9_unitOf_9 : decode cX9_unitOf 9 = .ok (.iadd, 1) := by decide +kernel
theorem dX9_unitOf_10 : decode cX9_unitOf 10 = .ok (.iaload, 1) := by decide +kernel
theorem dX9_unitOf_11 : decode cX9_unitOf 11 = .ok (.ireturn, 1) := by decide +kernel
theorem dX9_holds_0 : decode cX9_holds 0 = .ok (.aload_n 0, 1) := by decide +kernel
theorem dX9_holds_1 : decode cX9_holds 1 = .ok (.getfield 31, 3) := by decide +kernel
theorem dX9_holds_4 : decode cX9_holds 4 = .ok (.bipush 25, 2) := by decide +kernel
theorem dX9_holds_6 : decode cX9_holds 6 = .ok (.iconst 3, 1) := by decide +kernel
theorem dX9_holds_7 : decode cX9_holds 7 = .ok (.iload_n 1, 1) := by decide +kernel
theorem dX9_holds_8 : decode cX9_holds 8 = .ok (.imul, 1) := by decide +kernel
theorem dX9_holds_9 : decode cX9_holds 9 = .ok (.iadd, 1) := by decide +kernel
theorem dX9_holds_10 : decode cX9_holds 10 = .ok (.iaload, 1) := by decide +kernel
theorem dX9_holds_11 : decode cX9_holds 11 = .ok (.iconst 1, 1) := by decide +kernel
theorem dX9_holds_12 : decode cX9_holds 12 = .ok (.if_icmp .ne 17, 3) := by decide +kernel
theorem dX9_holds_15 : decode cX9_holds 15 = .ok (.aload_n 0, 1) := by decide +kernel
theorem dX9_holds_16 : decode cX9_holds 16 = .ok (.getfield 31, 3) := by decide +kernel
theorem dX9_holds_19 : decode cX9_holds 19 = .ok (.bipush 26, 2) := by decide +kernel
theorem dX9_holds_21 : decode cX9_holds 21 = .ok (.iconst 3, 1) := by decide +kernel
theorem dX9_holds_22 : decode cX9_holds 22 = .ok (.iload_n 1, 1) := by decide +kernel
theorem dX9_holds_23 : decode cX9_holds 23 = .ok (.imul, 1) := by decide +kernel
theorem dX9_holds_24 : decode cX9_holds 24 = .ok (.iadd, 1) := by decide +kernel
theorem dX9_holds_25 : decode cX9_holds 25 = .ok (.iaload, 1) := by decide +kernel
theorem dX9_holds_26 : decode cX9_holds 26 = .ok (.goto 15, 3) := by decide +kernel
theorem dX9_holds_29 : decode cX9_holds 29 = .ok (.aload_n 0, 1) := by decide +kernel
theorem dX9_holds_30 : decode cX9_holds 30 = .ok (.getfield 31, 3) := by decide +kernel
theorem dX9_holds_33 : decode cX9_holds 33 = .ok (.bipush 26, 2) := by decide +kernel
theorem dX9_holds_35 : decode cX9_holds 35 = .ok (.iconst 3, 1) := by decide +kernel
theorem dX9_holds_36 : decode cX9_holds 36 = .ok (.iload_n 1, 1) := by decide +kernel
theorem dX9_holds_37 : decode cX9_holds 37 = .ok (.imul, 1) := by decide +kernel
theorem dX9_holds_38 : decode cX9_holds 38 = .ok (.iadd, 1) := by decide +kernel
theorem dX9_holds_39 : decode cX9_holds 39 = .ok (.iaload, 1) := by decide +kernel
theorem dX9_holds_40 : decode cX9_holds 40 = .ok (.ineg, 1) := by decide +kernel
theorem dX9_holds_41 : decode cX9_holds 41 = .ok (.ireturn, 1) := by decide +kernel
theorem dX9_gain_0 : decode cX9_gain 0 = .ok (.aload_n 0, 1) := by decide +kernel
theorem dX9_gain_1 : decode cX9_gain 1 = .ok (.iload_n 3, 1) := by decide +kernel
theorem dX9_gain_2 : decode cX9_gain 2 = .ok (.invokevirtual 180, 3) := by decide +kernel
theorem dX9_gain_5 : decode cX9_gain 5 = .ok (.aload_n 0, 1) := by decide +kernel
theorem dX9_gain_6 : decode cX9_gain 6 = .ok (.iload_n 1, 1) := by decide +kernel
theorem dX9_gain_7 : decode cX9_gain 7 = .ok (.iload_n 2, 1) := by decide +kernel
theorem dX9_gain_8 : decode cX9_gain 8 = .ok (.aload_n 0, 1) := by decide +kernel
theorem dX9_gain_9 : decode cX9_gain 9 = .ok (.iload_n 3, 1) := by decide +kernel
theorem dX9_gain_10 : decode cX9_gain 10 = .ok (.invokevirtual 183, 3) := by decide +kernel
theorem dX9_gain_13 : decode cX9_gain 13 = .ok (.invokevirtual 177, 3) := by decide +kernel
theorem dX9_gain_16 : decode cX9_gain 16 = .ok (.imul, 1) := by decide +kernel
theorem dX9_gain_17 : decode cX9_gain 17 = .ok (.ireturn, 1) := by decide +kernel
theorem dX9_choice_0 : decode cX9_choice 0 = .ok (.iload_n 3, 1) := by decide +kernel
theorem dX9_choice_1 : decode cX9_choice 1 = .ok (.iconst (-1), 1) := by decide +kernel
theorem dX9_choice_2 : decode cX9_choice 2 = .ok (.if_icmp .ne 7, 3) := by decide +kernel
theorem dX9_choice_5 : decode cX9_choice 5 = .ok (.iconst 0, 1) := by decide +kernel
theorem dX9_choice_6 : decode cX9_choice 6 = .ok (.goto 4, 3) := by decide +kernel
theorem dX9_choice_9 : decode cX9_choice 9 = .ok (.iload_n 3, 1) := by decide +kernel
theorem dX9_choice_10 : decode cX9_choice 10 = .ok (.istore 4, 2) := by decide +kernel
theorem dX9_choice_12 : decode cX9_choice 12 = .ok (.iconst 0, 1) := by decide +kernel
theorem dX9_choice_13 : decode cX9_choice 13 = .ok (.istore 5, 2) := by decide +kernel
theorem dX9_choice_15 : decode cX9_choice 15 = .ok (.iload 5, 2) := by decide +kernel
theorem dX9_choice_17 : decode cX9_choice 17 = .ok (.aload_n 0, 1) := by decide +kernel
theorem dX9_choice_18 : decode cX9_choice 18 = .ok (.getfield 28, 3) := by decide +kernel
theorem dX9_choice_21 : decode cX9_choice 21 = .ok (.iconst 0, 1) := by decide +kernel
theorem dX9_choice_22 : decode cX9_choice 22 = .ok (.iaload, 1) := by decide +kernel
theorem dX9_choice_23 : decode cX9_choice 23 = .ok (.if_icmp .ge 60, 3) := by decide +kernel
theorem dX9_choice_26 : decode cX9_choice 26 = .ok (.aload_n 0, 1) := by decide +kernel
theorem dX9_choice_27 : decode cX9_choice 27 = .ok (.iload_n 1, 1) := by decide +kernel
theorem dX9_choice_28 : decode cX9_choice 28 = .ok (.iload 5, 2) := by decide +kernel
theorem dX9_choice_30 : decode cX9_choice 30 = .ok (.iload_n 2, 1) := by decide +kernel
theorem dX9_choice_31 : decode cX9_choice 31 = .ok (.invokevirtual 186, 3) := by decide +kernel
theorem dX9_choice_34 : decode cX9_choice 34 = .ok (.aload_n 0, 1) := by decide +kernel
theorem dX9_choice_35 : decode cX9_choice 35 = .ok (.iload_n 1, 1) := by decide +kernel
theorem dX9_choice_36 : decode cX9_choice 36 = .ok (.iload 4, 2) := by decide +kernel
theorem dX9_choice_38 : decode cX9_choice 38 = .ok (.iload_n 2, 1) := by decide +kernel
theorem dX9_choice_39 : decode cX9_choice 39 = .ok (.invokevirtual 186, 3) := by decide +kernel
theorem dX9_choice_42 : decode cX9_choice 42 = .ok (.isub, 1) := by decide +kernel
theorem dX9_choice_43 : decode cX9_choice 43 = .ok (.istore 6, 2) := by decide +kernel
theorem dX9_choice_45 : decode cX9_choice 45 = .ok (.iload 6, 2) := by decide +kernel
theorem dX9_choice_47 : decode cX9_choice 47 = .ok (.ifCond .gt 21, 3) := by decide +kernel
theorem dX9_choice_50 : decode cX9_choice 50 = .ok (.iload 6, 2) := by decide +kernel
theorem dX9_choice_52 : decode cX9_choice 52 = .ok (.ifCond .ne 21, 3) := by decide +kernel
theorem dX9_choice_55 : decode cX9_choice 55 = .ok (.iload 4, 2) := by decide +kernel
theorem dX9_choice_57 : decode cX9_choice 57 = .ok (.iload_n 3, 1) := by decide +kernel
theorem dX9_choice_58 : decode cX9_choice 58 = .ok (.if_icmp .eq 15, 3) := by decide +kernel
theorem dX9_choice_61 : decode cX9_choice 61 = .ok (.iload 5, 2) := by decide +kernel
theorem dX9_choice_63 : decode cX9_choice 63 = .ok (.iload 4, 2) := by decide +kernel
theorem dX9_choice_65 : decode cX9_choice 65 = .ok (.if_icmp .ge 8, 3) := by decide +kernel
theorem dX9_choice_68 : decode cX9_choice 68 = .ok (.iload 5, 2) := by decide +kernel
theorem dX9_choice_70 : decode cX9_choice 70 = .ok (.goto 5, 3) := by decide +kernel
theorem dX9_choice_73 : decode cX9_choice 73 = .ok (.iload 4, 2) := by decide +kernel
theorem dX9_choice_75 : decode cX9_choice 75 = .ok (.istore 4, 2) := by decide +kernel
theorem dX9_choice_77 : decode cX9_choice 77 = .ok (.iinc 5 1, 3) := by decide +kernel
theorem dX9_choice_80 : decode cX9_choice 80 = .ok (.goto (-65), 3) := by decide +kernel
theorem dX9_choice_83 : decode cX9_choice 83 = .ok (.iload 4, 2) := by decide +kernel
theorem dX9_choice_85 : decode cX9_choice 85 = .ok (.ireturn, 1) := by decide +kernel
theorem dX9_approves_0 : decode cX9_approves 0 = .ok (.iload 4, 2) := by decide +kernel
theorem dX9_approves_2 : decode cX9_approves 2 = .ok (.iconst (-1), 1) := by decide +kernel
theorem dX9_approves_3 : decode cX9_approves 3 = .ok (.if_icmp .eq 27, 3) := by decide +kernel
theorem dX9_approves_6 : decode cX9_approves 6 = .ok (.aload_n 0, 1) := by decide +kernel
theorem dX9_approves_7 : decode cX9_approves 7 = .ok (.iload_n 1, 1) := by decide +kernel
theorem dX9_approves_8 : decode cX9_approves 8 = .ok (.iload_n 3, 1) := by decide +kernel
theorem dX9_approves_9 : decode cX9_approves 9 = .ok (.iload_n 2, 1) := by decide +kernel
theorem dX9_approves_10 : decode cX9_approves 10 = .ok (.invokevirtual 186, 3) := by decide +kernel
theorem dX9_approves_13 : decode cX9_approves 13 = .ok (.aload_n 0, 1) := by decide +kernel
theorem dX9_approves_14 : decode cX9_approves 14 = .ok (.iload_n 1, 1) := by decide +kernel
theorem dX9_approves_15 : decode cX9_approves 15 = .ok (.iload 4, 2) := by decide +kernel
theorem dX9_approves_17 : decode cX9_approves 17 = .ok (.iload_n 2, 1) := by decide +kernel
theorem dX9_approves_18 : decode cX9_approves 18 = .ok (.invokevirtual 186, 3) := by decide +kernel
theorem dX9_approves_21 : decode cX9_approves 21 = .ok (.if_icmp .lt 7, 3) := by decide +kernel
theorem dX9_approves_24 : decode cX9_approves 24 = .ok (.iconst 1, 1) := by decide +kernel
theorem dX9_approves_25 : decode cX9_approves 25 = .ok (.goto 4, 3) := by decide +kernel
theorem dX9_approves_28 : decode cX9_approves 28 = .ok (.iconst 0, 1) := by decide +kernel
theorem dX9_approves_29 : decode cX9_approves 29 = .ok (.ireturn, 1) := by decide +kernel
theorem dX9_approves_30 : decode cX9_approves 30 = .ok (.iconst 0, 1) := by decide +kernel
theorem dX9_approves_31 : decode cX9_approves 31 = .ok (.istore 5, 2) := by decide +kernel
theorem dX9_approves_33 : decode cX9_approves 33 = .ok (.iconst 0, 1) := by decide +kernel
theorem dX9_approves_34 : decode cX9_approves 34 = .ok (.istore 6, 2) := by decide +kernel
theorem dX9_approves_36 : decode cX9_approves 36 = .ok (.iload 6, 2) := by decide +kernel
theorem dX9_approves_38 : decode cX9_approves 38 = .ok (.aload_n 0, 1) := by decide +kernel
theorem dX9_approves_39 : decode cX9_approves 39 = .ok (.getfield 28, 3) := by decide +kernel
theorem dX9_approves_42 : decode cX9_approves 42 = .ok (.iconst 0, 1) := by decide +kernel
theorem dX9_approves_43 : decode cX9_approves 43 = .ok (.iaload, 1) := by decide +kernel
theorem dX9_approves_44 : decode cX9_approves 44 = .ok (.if_icmp .ge 22, 3) := by decide +kernel
theorem dX9_approves_47 : decode cX9_approves 47 = .ok (.iload 5, 2) := by decide +kernel
theorem dX9_approves_49 : decode cX9_approves 49 = .ok (.aload_n 0, 1) := by decide +kernel
theorem dX9_approves_50 : decode cX9_approves 50 = .ok (.iload_n 1, 1) := by decide +kernel
theorem dX9_approves_51 : decode cX9_approves 51 = .ok (.iload 6, 2) := by decide +kernel
theorem dX9_approves_53 : decode cX9_approves 53 = .ok (.iload_n 2, 1) := by decide +kernel
theorem dX9_approves_54 : decode cX9_approves 54 = .ok (.invokevirtual 186, 3) := by decide +kernel
theorem dX9_approves_57 : decode cX9_approves 57 = .ok (.iadd, 1) := by decide +kernel
theorem dX9_approves_58 : decode cX9_approves 58 = .ok (.istore 5, 2) := by decide +kernel
theorem dX9_approves_60 : decode cX9_approves 60 = .ok (.iinc 6 1, 3) := by decide +kernel
theorem dX9_approves_63 : decode cX9_approves 63 = .ok (.goto (-27), 3) := by decide +kernel
theorem dX9_approves_66 : decode cX9_approves 66 = .ok (.aload_n 0, 1) := by decide +kernel
theorem dX9_approves_67 : decode cX9_approves 67 = .ok (.iload_n 1, 1) := by decide +kernel
theorem dX9_approves_68 : decode cX9_approves 68 = .ok (.iload_n 3, 1) := by decide +kernel
theorem dX9_approves_69 : decode cX9_approves 69 = .ok (.iload_n 2, 1) := by decide +kernel
theorem dX9_approves_70 : decode cX9_approves 70 = .ok (.invokevirtual 186, 3) := by decide +kernel
theorem dX9_approves_73 : decode cX9_approves 73 = .ok (.aload_n 0, 1) := by decide +kernel
theorem dX9_approves_74 : decode cX9_approves 74 = .ok (.getfield 28, 3) := by decide +kernel
theorem dX9_approves_77 : decode cX9_approves 77 = .ok (.iconst 0, 1) := by decide +kernel
theorem dX9_approves_78 : decode cX9_approves 78 = .ok (.iaload, 1) := by decide +kernel
theorem dX9_approves_79 : decode cX9_approves 79 = .ok (.imul, 1) := by decide +kernel
theorem dX9_approves_80 : decode cX9_approves 80 = .ok (.iload 5, 2) := by decide +kernel
theorem dX9_approves_82 : decode cX9_approves 82 = .ok (.if_icmp .lt 7, 3) := by decide +kernel
theorem dX9_approves_85 : decode cX9_approves 85 = .ok (.iconst 1, 1) := by decide +kernel
theorem dX9_approves_86 : decode cX9_approves 86 = .ok (.goto 4, 3) := by decide +kernel
theorem dX9_approves_89 : decode cX9_approves 89 = .ok (.iconst 0, 1) := by decide +kernel
theorem dX9_approves_90 : decode cX9_approves 90 = .ok (.ireturn, 1) := by decide +kernel
theorem dX9_counts_0 : decode cX9_counts 0 = .ok (.bipush 12, 2) := by decide +kernel
theorem dX9_counts_2 : decode cX9_counts 2 = .ok (.iload_n 1, 1) := by decide +kernel
theorem dX9_counts_3 : decode cX9_counts 3 = .ok (.imul, 1) := by decide +kernel
theorem dX9_counts_4 : decode cX9_counts 4 = .ok (.iconst 4, 1) := by decide +kernel
theorem dX9_counts_5 : decode cX9_counts 5 = .ok (.iload_n 2, 1) := by decide +kernel
theorem dX9_counts_6 : decode cX9_counts 6 = .ok (.imul, 1) := by decide +kernel
theorem dX9_counts_7 : decode cX9_counts 7 = .ok (.iadd, 1) := by decide +kernel
theorem dX9_counts_8 : decode cX9_counts 8 = .ok (.istore 5, 2) := by decide +kernel
theorem dX9_counts_10 : decode cX9_counts 10 = .ok (.iconst 0, 1) := by decide +kernel
theorem dX9_counts_11 : decode cX9_counts 11 = .ok (.istore 6, 2) := by decide +kernel
theorem dX9_counts_13 : decode cX9_counts 13 = .ok (.iload 6, 2) := by decide +kernel
theorem dX9_counts_15 : decode cX9_counts 15 = .ok (.iconst 4, 1) := by decide +kernel
theorem dX9_counts_16 : decode cX9_counts 16 = .ok (.if_icmp .ge 20, 3) := by decide +kernel
theorem dX9_counts_19 : decode cX9_counts 19 = .ok (.aload_n 0, 1) := by decide +kernel
theorem dX9_counts_20 : decode cX9_counts 20 = .ok (.getfield 46, 3) := by decide +kernel
theorem dX9_counts_23 : decode cX9_counts 23 = .ok (.iload 5, 2) := by decide +kernel
theorem dX9_counts_25 : decode cX9_counts 25 = .ok (.iload 6, 2) := by decide +kernel
theorem dX9_counts_27 : decode cX9_counts 27 = .ok (.iadd, 1) := by decide +kernel
theorem dX9_counts_28 : decode cX9_counts 28 = .ok (.iconst 0, 1) := by decide +kernel
theorem dX9_counts_29 : decode cX9_counts 29 = .ok (.iastore, 1) := by decide +kernel
theorem dX9_counts_30 : decode cX9_counts 30 = .ok (.iinc 6 1, 3) := by decide +kernel
theorem dX9_counts_33 : decode cX9_counts 33 = .ok (.goto (-20), 3) := by decide +kernel
theorem dX9_counts_36 : decode cX9_counts 36 = .ok (.iconst 0, 1) := by decide +kernel
theorem dX9_counts_37 : decode cX9_counts 37 = .ok (.istore 6, 2) := by decide +kernel
theorem dX9_counts_39 : decode cX9_counts 39 = .ok (.iload 6, 2) := by decide +kernel
theorem dX9_counts_41 : decode cX9_counts 41 = .ok (.aload_n 0, 1) := by decide +kernel
theorem dX9_counts_42 : decode cX9_counts 42 = .ok (.getfield 28, 3) := by decide +kernel
theorem dX9_counts_45 : decode cX9_counts 45 = .ok (.iconst 1, 1) := by decide +kernel
theorem dX9_counts_46 : decode cX9_counts 46 = .ok (.iaload, 1) := by decide +kernel
theorem dX9_counts_47 : decode cX9_counts 47 = .ok (.if_icmp .ge 104, 3) := by decide +kernel
theorem dX9_counts_50 : decode cX9_counts 50 = .ok (.iload_n 3, 1) := by decide +kernel
theorem dX9_counts_51 : decode cX9_counts 51 = .ok (.iconst 2, 1) := by decide +kernel
theorem dX9_counts_52 : decode cX9_counts 52 = .ok (.if_icmp .ne 58, 3) := by decide +kernel
theorem dX9_counts_55 : decode cX9_counts 55 = .ok (.iconst 0, 1) := by decide +kernel
theorem dX9_counts_56 : decode cX9_counts 56 = .ok (.istore 7, 2) := by decide +kernel
theorem dX9_counts_58 : decode cX9_counts 58 = .ok (.iload 7, 2) := by decide +kernel
theorem dX9_counts_60 : decode cX9_counts 60 = .ok (.aload_n 0, 1) := by decide +kernel
theorem dX9_counts_61 : decode cX9_counts 61 = .ok (.getfield 28, 3) := by decide +kernel
theorem dX9_counts_64 : decode cX9_counts 64 = .ok (.iconst 0, 1) := by decide +kernel
theorem dX9_counts_65 : decode cX9_counts 65 = .ok (.iaload, 1) := by decide +kernel
theorem dX9_counts_66 : decode cX9_counts 66 = .ok (.if_icmp .ge 41, 3) := by decide +kernel
theorem dX9_counts_69 : decode cX9_counts 69 = .ok (.aload_n 0, 1) := by decide +kernel
theorem dX9_counts_70 : decode cX9_counts 70 = .ok (.getfield 46, 3) := by decide +kernel
theorem dX9_counts_73 : decode cX9_counts 73 = .ok (.iload 5, 2) := by decide +kernel
theorem dX9_counts_75 : decode cX9_counts 75 = .ok (.iload 7, 2) := by decide +kernel
theorem dX9_counts_77 : decode cX9_counts 77 = .ok (.iadd, 1) := by decide +kernel
theorem dX9_counts_78 : decode cX9_counts 78 = .ok (.dup2, 1) := by decide +kernel
theorem dX9_counts_79 : decode cX9_counts 79 = .ok (.iaload, 1) := by decide +kernel
theorem dX9_counts_80 : decode cX9_counts 80 = .ok (.aload_n 0, 1) := by decide +kernel
theorem dX9_counts_81 : decode cX9_counts 81 = .ok (.iload_n 1, 1) := by decide +kernel
theorem dX9_counts_82 : decode cX9_counts 82 = .ok (.iload 6, 2) := by decide +kernel
theorem dX9_counts_84 : decode cX9_counts 84 = .ok (.iload 7, 2) := by decide +kernel
theorem dX9_counts_86 : decode cX9_counts 86 = .ok (.iload 4, 2) := by decide +kernel
theorem dX9_counts_88 : decode cX9_counts 88 = .ok (.invokevirtual 189, 3) := by decide +kernel
theorem dX9_counts_91 : decode cX9_counts 91 = .ok (.ifCond .eq 7, 3) := by decide +kernel
theorem dX9_counts_94 : decode cX9_counts 94 = .ok (.iconst 1, 1) := by decide +kernel
theorem dX9_counts_95 : decode cX9_counts 95 = .ok (.goto 4, 3) := by decide +kernel
theorem dX9_counts_98 : decode cX9_counts 98 = .ok (.iconst 0, 1) := by decide +kernel
theorem dX9_counts_99 : decode cX9_counts 99 = .ok (.iadd, 1) := by decide +kernel
theorem dX9_counts_100 : decode cX9_counts 100 = .ok (.iastore, 1) := by decide +kernel
theorem dX9_counts_101 : decode cX9_counts 101 = .ok (.iinc 7 1, 3) := by decide +kernel
theorem dX9_counts_104 : decode cX9_counts 104 = .ok (.goto (-46), 3) := by decide +kernel
theorem dX9_counts_107 : decode cX9_counts 107 = .ok (.goto 38, 3) := by decide +kernel
theorem dX9_counts_110 : decode cX9_counts 110 = .ok (.iload_n 3, 1) := by decide +kernel
theorem dX9_counts_111 : decode cX9_counts 111 = .ok (.ifCond .eq 13, 3) := by decide +kernel
theorem dX9_counts_114 : decode cX9_counts 114 = .ok (.aload_n 0, 1) := by decide +kernel
theorem dX9_counts_115 : decode cX9_counts 115 = .ok (.iload 6, 2) := by decide +kernel
theorem dX9_counts_117 : decode cX9_counts 117 = .ok (.invokevirtual 183, 3) := by decide +kernel
theorem dX9_counts_120 : decode cX9_counts 120 = .ok (.iload_n 2, 1) := by decide +kernel
theorem dX9_counts_121 : decode cX9_counts 121 = .ok (.if_icmp .ne 24, 3) := by decide +kernel
theorem dX9_counts_124 : decode cX9_counts 124 = .ok (.aload_n 0, 1) := by decide +kernel
theorem dX9_counts_125 : decode cX9_counts 125 = .ok (.getfield 46, 3) := by decide +kernel
theorem dX9_counts_128 : decode cX9_counts 128 = .ok (.iload 5, 2) := by decide +kernel
theorem dX9_counts_130 : decode cX9_counts 130 = .ok (.aload_n 0, 1) := by decide +kernel
theorem dX9_counts_131 : decode cX9_counts 131 = .ok (.iload_n 1, 1) := by decide +kernel
theorem dX9_counts_132 : decode cX9_counts 132 = .ok (.iload 6, 2) := by decide +kernel
theorem dX9_counts_134 : decode cX9_counts 134 = .ok (.iload 4, 2) := by decide +kernel
theorem dX9_counts_136 : decode cX9_counts 136 = .ok (.invokevirtual 193, 3) := by decide +kernel
theorem dX9_counts_139 : decode cX9_counts 139 = .ok (.iadd, 1) := by decide +kernel
theorem dX9_counts_140 : decode cX9_counts 140 = .ok (.dup2, 1) := by decide +kernel
theorem dX9_counts_141 : decode cX9_counts 141 = .ok (.iaload, 1) := by decide +kernel
theorem dX9_counts_142 : decode cX9_counts 142 = .ok (.iconst 1, 1) := by decide +kernel
theorem dX9_counts_143 : decode cX9_counts 143 = .ok (.iadd, 1) := by decide +kernel
theorem dX9_counts_144 : decode cX9_counts 144 = .ok (.iastore, 1) := by decide +kernel
theorem dX9_counts_145 : decode cX9_counts 145 = .ok (.iinc 6 1, 3) := by decide +kernel
theorem dX9_counts_148 : decode cX9_counts 148 = .ok (.goto (-109), 3) := by decide +kernel
theorem dX9_counts_151 : decode cX9_counts 151 = .ok (.return_, 1) := by decide +kernel
theorem dX9_mostAt_0 : decode cX9_mostAt 0 = .ok (.iload_n 2, 1) := by decide +kernel
theorem dX9_mostAt_1 : decode cX9_mostAt 1 = .ok (.iconst (-1), 1) := by decide +kernel
theorem dX9_mostAt_2 : decode cX9_mostAt 2 = .ok (.if_icmp .ne 7, 3) := by decide +kernel
theorem dX9_mostAt_5 : decode cX9_mostAt 5 = .ok (.iconst 0, 1) := by decide +kernel
theorem dX9_mostAt_6 : decode cX9_mostAt 6 = .ok (.goto 4, 3) := by decide +kernel
theorem dX9_mostAt_9 : decode cX9_mostAt 9 = .ok (.iload_n 2, 1) := by decide +kernel
theorem dX9_mostAt_10 : decode cX9_mostAt 10 = .ok (.istore_n 3, 1) := by decide +kernel
theorem dX9_mostAt_11 : decode cX9_mostAt 11 = .ok (.iconst 0, 1) := by decide +kernel
theorem dX9_mostAt_12 : decode cX9_mostAt 12 = .ok (.istore 4, 2) := by decide +kernel
theorem dX9_mostAt_14 : decode cX9_mostAt 14 = .ok (.iload 4, 2) := by decide +kernel
theorem dX9_mostAt_16 : decode cX9_mostAt 16 = .ok (.aload_n 0, 1) := by decide +kernel
theorem dX9_mostAt_17 : decode cX9_mostAt 17 = .ok (.getfield 28, 3) := by decide +kernel
theorem dX9_mostAt_20 : decode cX9_mostAt 20 = .ok (.iconst 0, 1) := by decide +kernel
theorem dX9_mostAt_21 : decode cX9_mostAt 21 = .ok (.iaload, 1) := by decide +kernel
theorem dX9_mostAt_22 : decode cX9_mostAt 22 = .ok (.if_icmp .ge 57, 3) := by decide +kernel
theorem dX9_mostAt_25 : decode cX9_mostAt 25 = .ok (.aload_n 0, 1) := by decide +kernel
theorem dX9_mostAt_26 : decode cX9_mostAt 26 = .ok (.getfield 46, 3) := by decide +kernel
theorem dX9_mostAt_29 : decode cX9_mostAt 29 = .ok (.iload_n 1, 1) := by decide +kernel
theorem dX9_mostAt_30 : decode cX9_mostAt 30 = .ok (.iload 4, 2) := by decide +kernel
theorem dX9_mostAt_32 : decode cX9_mostAt 32 = .ok (.iadd, 1) := by decide +kernel
theorem dX9_mostAt_33 : decode cX9_mostAt 33 = .ok (.iaload, 1) := by decide +kernel
theorem dX9_mostAt_34 : decode cX9_mostAt 34 = .ok (.aload_n 0, 1) := by decide +kernel
theorem dX9_mostAt_35 : decode cX9_mostAt 35 = .ok (.getfield 46, 3) := by decide +kernel
theorem dX9_mostAt_38 : decode cX9_mostAt 38 = .ok (.iload_n 1, 1) := by decide +kernel
theorem dX9_mostAt_39 : decode cX9_mostAt 39 = .ok (.iload_n 3, 1) := by decide +kernel
theorem dX9_mostAt_40 : decode cX9_mostAt 40 = .ok (.iadd, 1) := by decide +kernel
theorem dX9_mostAt_41 : decode cX9_mostAt 41 = .ok (.iaload, 1) := by decide +kernel
theorem dX9_mostAt_42 : decode cX9_mostAt 42 = .ok (.isub, 1) := by decide +kernel
theorem dX9_mostAt_43 : decode cX9_mostAt 43 = .ok (.istore 5, 2) := by decide +kernel
theorem dX9_mostAt_45 : decode cX9_mostAt 45 = .ok (.iload 5, 2) := by decide +kernel
theorem dX9_mostAt_47 : decode cX9_mostAt 47 = .ok (.ifCond .gt 19, 3) := by decide +kernel
theorem dX9_mostAt_50 : decode cX9_mostAt 50 = .ok (.iload 5, 2) := by decide +kernel
theorem dX9_mostAt_52 : decode cX9_mostAt 52 = .ok (.ifCond .ne 19, 3) := by decide +kernel
theorem dX9_mostAt_55 : decode cX9_mostAt 55 = .ok (.iload_n 3, 1) := by decide +kernel
theorem dX9_mostAt_56 : decode cX9_mostAt 56 = .ok (.iload_n 2, 1) := by decide +kernel
theorem dX9_mostAt_57 : decode cX9_mostAt 57 = .ok (.if_icmp .eq 14, 3) := by decide +kernel
theorem dX9_mostAt_60 : decode cX9_mostAt 60 = .ok (.iload 4, 2) := by decide +kernel
theorem dX9_mostAt_62 : decode cX9_mostAt 62 = .ok (.iload_n 3, 1) := by decide +kernel
theorem dX9_mostAt_63 : decode cX9_mostAt 63 = .ok (.if_icmp .ge 8, 3) := by decide +kernel
theorem dX9_mostAt_66 : decode cX9_mostAt 66 = .ok (.iload 4, 2) := by decide +kernel
theorem dX9_mostAt_68 : decode cX9_mostAt 68 = .ok (.goto 4, 3) := by decide +kernel
theorem dX9_mostAt_71 : decode cX9_mostAt 71 = .ok (.iload_n 3, 1) := by decide +kernel
theorem dX9_mostAt_72 : decode cX9_mostAt 72 = .ok (.istore_n 3, 1) := by decide +kernel
theorem dX9_mostAt_73 : decode cX9_mostAt 73 = .ok (.iinc 4 1, 3) := by decide +kernel
theorem dX9_mostAt_76 : decode cX9_mostAt 76 = .ok (.goto (-62), 3) := by decide +kernel
theorem dX9_mostAt_79 : decode cX9_mostAt 79 = .ok (.iload_n 3, 1) := by decide +kernel
theorem dX9_mostAt_80 : decode cX9_mostAt 80 = .ok (.ireturn, 1) := by decide +kernel
theorem dX9_lives_0 : decode cX9_lives 0 = .ok (.aload_n 0, 1) := by decide +kernel
theorem dX9_lives_1 : decode cX9_lives 1 = .ok (.invokevirtual 151, 3) := by decide +kernel
theorem dX9_lives_4 : decode cX9_lives 4 = .ok (.iconst 0, 1) := by decide +kernel
theorem dX9_lives_5 : decode cX9_lives 5 = .ok (.istore_n 2, 1) := by decide +kernel
theorem dX9_lives_6 : decode cX9_lives 6 = .ok (.iload_n 2, 1) := by decide +kernel
theorem dX9_lives_7 : decode cX9_lives 7 = .ok (.bipush 10, 2) := by decide +kernel
theorem dX9_lives_9 : decode cX9_lives 9 = .ok (.if_icmp .ge 99, 3) := by decide +kernel
theorem dX9_lives_12 : decode cX9_lives 12 = .ok (.iconst 0, 1) := by decide +kernel
theorem dX9_lives_13 : decode cX9_lives 13 = .ok (.istore_n 3, 1) := by decide +kernel
theorem dX9_lives_14 : decode cX9_lives 14 = .ok (.iload_n 3, 1) := by decide +kernel
theorem dX9_lives_15 : decode cX9_lives 15 = .ok (.iconst 3, 1) := by decide +kernel
theorem dX9_lives_16 : decode cX9_lives 16 = .ok (.if_icmp .ge 86, 3) := by decide +kernel
theorem dX9_lives_19 : decode cX9_lives 19 = .ok (.iload_n 2, 1) := by decide +kernel
theorem dX9_lives_20 : decode cX9_lives 20 = .ok (.ifCond .ne 7, 3) := by decide +kernel
theorem dX9_lives_23 : decode cX9_lives 23 = .ok (.iconst (-1), 1) := by decide +kernel
theorem dX9_lives_24 : decode cX9_lives 24 = .ok (.goto 15, 3) := by decide +kernel
theorem dX9_lives_27 : decode cX9_lives 27 = .ok (.aload_n 0, 1) := by decide +kernel
theorem dX9_lives_28 : decode cX9_lives 28 = .ok (.getfield 43, 3) := by decide +kernel
theorem dX9_lives_31 : decode cX9_lives 31 = .ok (.iconst 3, 1) := by decide +kernel
theorem dX9_lives_32 : decode cX9_lives 32 = .ok (.iload_n 2, 1) := by decide +kernel
theorem dX9_lives_33 : decode cX9_lives 33 = .ok (.imul, 1) := by decide +kernel
theorem dX9_lives_34 : decode cX9_lives 34 = .ok (.iconst 3, 1) := by decide +kernel
theorem dX9_lives_35 : decode cX9_lives 35 = .ok (.isub, 1) := by decide +kernel
theorem dX9_lives_36 : decode cX9_lives 36 = .ok (.iload_n 3, 1) := by decide +kernel
theorem dX9_lives_37 : decode cX9_lives 37 = .ok (.iadd, 1) := by decide +kernel
theorem dX9_lives_38 : decode cX9_lives 38 = .ok (.iaload, 1) := by decide +kernel
theorem dX9_lives_39 : decode cX9_lives 39 = .ok (.istore 4, 2) := by decide +kernel
theorem dX9_lives_41 : decode cX9_lives 41 = .ok (.aload_n 0, 1) := by decide +kernel
theorem dX9_lives_42 : decode cX9_lives 42 = .ok (.getfield 28, 3) := by decide +kernel
theorem dX9_lives_45 : decode cX9_lives 45 = .ok (.iconst 0, 1) := by decide +kernel
theorem dX9_lives_46 : decode cX9_lives 46 = .ok (.iaload, 1) := by decide +kernel
theorem dX9_lives_47 : decode cX9_lives 47 = .ok (.ifCond .le 12, 3) := by decide +kernel
theorem dX9_lives_50 : decode cX9_lives 50 = .ok (.aload_n 0, 1) := by decide +kernel
theorem dX9_lives_51 : decode cX9_lives 51 = .ok (.iload_n 2, 1) := by decide +kernel
theorem dX9_lives_52 : decode cX9_lives 52 = .ok (.iload_n 3, 1) := by decide +kernel
theorem dX9_lives_53 : decode cX9_lives 53 = .ok (.iload_n 1, 1) := by decide +kernel
theorem dX9_lives_54 : decode cX9_lives 54 = .ok (.iload 4, 2) := by decide +kernel
theorem dX9_lives_56 : decode cX9_lives 56 = .ok (.invokevirtual 196, 3) := by decide +kernel
theorem dX9_lives_59 : decode cX9_lives 59 = .ok (.aload_n 0, 1) := by decide +kernel
theorem dX9_lives_60 : decode cX9_lives 60 = .ok (.getfield 43, 3) := by decide +kernel
theorem dX9_lives_63 : decode cX9_lives 63 = .ok (.iconst 3, 1) := by decide +kernel
theorem dX9_lives_64 : decode cX9_lives 64 = .ok (.iload_n 2, 1) := by decide +kernel
theorem dX9_lives_65 : decode cX9_lives 65 = .ok (.imul, 1) := by decide +kernel
theorem dX9_lives_66 : decode cX9_lives 66 = .ok (.iload_n 3, 1) := by decide +kernel
theorem dX9_lives_67 : decode cX9_lives 67 = .ok (.iadd, 1) := by decide +kernel
theorem dX9_lives_68 : decode cX9_lives 68 = .ok (.aload_n 0, 1) := by decide +kernel
theorem dX9_lives_69 : decode cX9_lives 69 = .ok (.getfield 28, 3) := by decide +kernel
theorem dX9_lives_72 : decode cX9_lives 72 = .ok (.iconst 0, 1) := by decide +kernel
theorem dX9_lives_73 : decode cX9_lives 73 = .ok (.iaload, 1) := by decide +kernel
theorem dX9_lives_74 : decode cX9_lives 74 = .ok (.ifCond .ne 7, 3) := by decide +kernel
theorem dX9_lives_77 : decode cX9_lives 77 = .ok (.iconst (-1), 1) := by decide +kernel
theorem dX9_lives_78 : decode cX9_lives 78 = .ok (.goto 17, 3) := by decide +kernel
theorem dX9_lives_81 : decode cX9_lives 81 = .ok (.aload_n 0, 1) := by decide +kernel
theorem dX9_lives_82 : decode cX9_lives 82 = .ok (.bipush 12, 2) := by decide +kernel
theorem dX9_lives_84 : decode cX9_lives 84 = .ok (.iload_n 2, 1) := by decide +kernel
theorem dX9_lives_85 : decode cX9_lives 85 = .ok (.imul, 1) := by decide +kernel
theorem dX9_lives_86 : decode cX9_lives 86 = .ok (.iconst 4, 1) := by decide +kernel
theorem dX9_lives_87 : decode cX9_lives 87 = .ok (.iload_n 3, 1) := by decide +kernel
theorem dX9_lives_88 : decode cX9_lives 88 = .ok (.imul, 1) := by decide +kernel
theorem dX9_lives_89 : decode cX9_lives 89 = .ok (.iadd, 1) := by decide +kernel
theorem dX9_lives_90 : decode cX9_lives 90 = .ok (.iload 4, 2) := by decide +kernel
theorem dX9_lives_92 : decode cX9_lives 92 = .ok (.invokevirtual 200, 3) := by decide +kernel
theorem dX9_lives_95 : decode cX9_lives 95 = .ok (.iastore, 1) := by decide +kernel
theorem dX9_lives_96 : decode cX9_lives 96 = .ok (.iinc 3 1, 3) := by decide +kernel
theorem dX9_lives_99 : decode cX9_lives 99 = .ok (.goto (-85), 3) := by decide +kernel
theorem dX9_lives_102 : decode cX9_lives 102 = .ok (.iinc 2 1, 3) := by decide +kernel
theorem dX9_lives_105 : decode cX9_lives 105 = .ok (.goto (-99), 3) := by decide +kernel
theorem dX9_lives_108 : decode cX9_lives 108 = .ok (.return_, 1) := by decide +kernel
theorem dX9_livesNow_0 : decode cX9_livesNow 0 = .ok (.aload_n 0, 1) := by decide +kernel
theorem dX9_livesNow_1 : decode cX9_livesNow 1 = .ok (.aload_n 0, 1) := by decide +kernel
theorem dX9_livesNow_2 : decode cX9_livesNow 2 = .ok (.getfield 34, 3) := by decide +kernel
theorem dX9_livesNow_5 : decode cX9_livesNow 5 = .ok (.iconst 0, 1) := by decide +kernel
theorem dX9_livesNow_6 : decode cX9_livesNow 6 = .ok (.iaload, 1) := by decide +kernel
theorem dX9_livesNow_7 : decode cX9_livesNow 7 = .ok (.invokevirtual 203, 3) := by decide +kernel
theorem dX9_livesNow_10 : decode cX9_livesNow 10 = .ok (.return_, 1) := by decide +kernel
theorem dX9_greatOf_0 : decode cX9_greatOf 0 = .ok (.aload_n 0, 1) := by decide +kernel
theorem dX9_greatOf_1 : decode cX9_greatOf 1 = .ok (.getfield 43, 3) := by decide +kernel
theorem dX9_greatOf_4 : decode cX9_greatOf 4 = .ok (.iconst 3, 1) := by decide +kernel
theorem dX9_greatOf_5 : decode cX9_greatOf 5 = .ok (.iload_n 1, 1) := by decide +kernel
theorem dX9_greatOf_6 : decode cX9_greatOf 6 = .ok (.imul, 1) := by decide +kernel
theorem dX9_greatOf_7 : decode cX9_greatOf 7 = .ok (.iload_n 2, 1) := by decide +kernel
theorem dX9_greatOf_8 : decode cX9_greatOf 8 = .ok (.iadd, 1) := by decide +kernel
theorem dX9_greatOf_9 : decode cX9_greatOf 9 = .ok (.iaload, 1) := by decide +kernel
theorem dX9_greatOf_10 : decode cX9_greatOf 10 = .ok (.istore_n 3, 1) := by decide +kernel
theorem dX9_greatOf_11 : decode cX9_greatOf 11 = .ok (.iload_n 3, 1) := by decide +kernel
theorem dX9_greatOf_12 : decode cX9_greatOf 12 = .ok (.iconst (-1), 1) := by decide +kernel
theorem dX9_greatOf_13 : decode cX9_greatOf 13 = .ok (.if_icmp .ne 7, 3) := by decide +kernel
theorem dX9_greatOf_16 : decode cX9_greatOf 16 = .ok (.iconst 1, 1) := by decide +kernel
theorem dX9_greatOf_17 : decode cX9_greatOf 17 = .ok (.goto 10, 3) := by decide +kernel
theorem dX9_greatOf_20 : decode cX9_greatOf 20 = .ok (.aload_n 0, 1) := by decide +kernel
theorem dX9_greatOf_21 : decode cX9_greatOf 21 = .ok (.iload_n 1, 1) := by decide +kernel
theorem dX9_greatOf_22 : decode cX9_greatOf 22 = .ok (.iload_n 3, 1) := by decide +kernel
theorem dX9_greatOf_23 : decode cX9_greatOf 23 = .ok (.iload_n 2, 1) := by decide +kernel
theorem dX9_greatOf_24 : decode cX9_greatOf 24 = .ok (.invokevirtual 177, 3) := by decide +kernel
theorem dX9_greatOf_27 : decode cX9_greatOf 27 = .ok (.ireturn, 1) := by decide +kernel
theorem dX9_elected_0 : decode cX9_elected 0 = .ok (.aload_n 0, 1) := by decide +kernel
theorem dX9_elected_1 : decode cX9_elected 1 = .ok (.invokevirtual 207, 3) := by decide +kernel
theorem dX9_elected_4 : decode cX9_elected 4 = .ok (.iload_n 1, 1) := by decide +kernel
theorem dX9_elected_5 : decode cX9_elected 5 = .ok (.invokestatic 165, 3) := by decide +kernel
theorem dX9_elected_8 : decode cX9_elected 8 = .ok (.ifCond .eq 23, 3) := by decide +kernel
theorem dX9_elected_11 : decode cX9_elected 11 = .ok (.iload_n 2, 1) := by decide +kernel
theorem dX9_elected_12 : decode cX9_elected 12 = .ok (.invokestatic 168, 3) := by decide +kernel
theorem dX9_elected_15 : decode cX9_elected 15 = .ok (.ifCond .eq 16, 3) := by decide +kernel
theorem dX9_elected_18 : decode cX9_elected 18 = .ok (.aload_n 0, 1) := by decide +kernel
theorem dX9_elected_19 : decode cX9_elected 19 = .ok (.getfield 43, 3) := by decide +kernel
theorem dX9_elected_22 : decode cX9_elected 22 = .ok (.iconst 3, 1) := by decide +kernel
theorem dX9_elected_23 : decode cX9_elected 23 = .ok (.iload_n 1, 1) := by decide +kernel
theorem dX9_elected_24 : decode cX9_elected 24 = .ok (.imul, 1) := by decide +kernel
theorem dX9_elected_25 : decode cX9_elected 25 = .ok (.iload_n 2, 1) := by decide +kernel
theorem dX9_elected_26 : decode cX9_elected 26 = .ok (.iadd, 1) := by decide +kernel
theorem dX9_elected_27 : decode cX9_elected 27 = .ok (.iaload, 1) := by decide +kernel
theorem dX9_elected_28 : decode cX9_elected 28 = .ok (.goto 5, 3) := by decide +kernel
theorem dX9_elected_31 : decode cX9_elected 31 = .ok (.bipush (-2), 2) := by decide +kernel
theorem dX9_elected_33 : decode cX9_elected 33 = .ok (.ireturn, 1) := by decide +kernel
theorem dX9_great_0 : decode cX9_great 0 = .ok (.aload_n 0, 1) := by decide +kernel
theorem dX9_great_1 : decode cX9_great 1 = .ok (.invokevirtual 207, 3) := by decide +kernel
theorem dX9_great_4 : decode cX9_great 4 = .ok (.iload_n 1, 1) := by decide +kernel
theorem dX9_great_5 : decode cX9_great 5 = .ok (.invokestatic 165, 3) := by decide +kernel
theorem dX9_great_8 : decode cX9_great 8 = .ok (.ifCond .eq 19, 3) := by decide +kernel
theorem dX9_great_11 : decode cX9_great 11 = .ok (.iload_n 2, 1) := by decide +kernel
theorem dX9_great_12 : decode cX9_great 12 = .ok (.invokestatic 168, 3) := by decide +kernel
theorem dX9_great_15 : decode cX9_great 15 = .ok (.ifCond .eq 12, 3) := by decide +kernel
theorem dX9_great_18 : decode cX9_great 18 = .ok (.aload_n 0, 1) := by decide +kernel
theorem dX9_great_19 : decode cX9_great 19 = .ok (.iload_n 1, 1) := by decide +kernel
theorem dX9_great_20 : decode cX9_great 20 = .ok (.iload_n 2, 1) := by decide +kernel
theorem dX9_great_21 : decode cX9_great 21 = .ok (.invokevirtual 210, 3) := by decide +kernel
theorem dX9_great_24 : decode cX9_great 24 = .ok (.goto 5, 3) := by decide +kernel
theorem dX9_great_27 : decode cX9_great 27 = .ok (.bipush (-2), 2) := by decide +kernel
theorem dX9_great_29 : decode cX9_great 29 = .ok (.ireturn, 1) := by decide +kernel
theorem dX9_votes_0 : decode cX9_votes 0 = .ok (.aload_n 0, 1) := by decide +kernel
theorem dX9_votes_1 : decode cX9_votes 1 = .ok (.invokevirtual 207, 3) := by decide +kernel
theorem dX9_votes_4 : decode cX9_votes 4 = .ok (.iload_n 1, 1) := by decide +kernel
theorem dX9_votes_5 : decode cX9_votes 5 = .ok (.invokestatic 165, 3) := by decide +kernel
theorem dX9_votes_8 : decode cX9_votes 8 = .ok (.ifCond .eq 36, 3) := by decide +kernel
theorem dX9_votes_11 : decode cX9_votes 11 = .ok (.iload_n 2, 1) := by decide +kernel
theorem dX9_votes_12 : decode cX9_votes 12 = .ok (.invokestatic 168, 3) := by decide +kernel
theorem dX9_votes_15 : decode cX9_votes 15 = .ok (.ifCond .eq 29, 3) := by decide +kernel
theorem dX9_votes_18 : decode cX9_votes 18 = .ok (.aload_n 0, 1) := by decide +kernel
theorem dX9_votes_19 : decode cX9_votes 19 = .ok (.iload_n 3, 1) := by decide +kernel
theorem dX9_votes_20 : decode cX9_votes 20 = .ok (.invokevirtual 174, 3) := by decide +kernel
theorem dX9_votes_23 : decode cX9_votes 23 = .ok (.ifCond .eq 21, 3) := by decide +kernel
theorem dX9_votes_26 : decode cX9_votes 26 = .ok (.aload_n 0, 1) := by decide +kernel
theorem dX9_votes_27 : decode cX9_votes 27 = .ok (.getfield 46, 3) := by decide +kernel
theorem dX9_votes_30 : decode cX9_votes 30 = .ok (.bipush 12, 2) := by decide +kernel
theorem dX9_votes_32 : decode cX9_votes 32 = .ok (.iload_n 1, 1) := by decide +kernel
theorem dX9_votes_33 : decode cX9_votes 33 = .ok (.imul, 1) := by decide +kernel
theorem dX9_votes_34 : decode cX9_votes 34 = .ok (.iconst 4, 1) := by decide +kernel
theorem dX9_votes_35 : decode cX9_votes 35 = .ok (.iload_n 2, 1) := by decide +kernel
theorem dX9_votes_36 : decode cX9_votes 36 = .ok (.imul, 1) := by decide +kernel
theorem dX9_votes_37 : decode cX9_votes 37 = .ok (.iadd, 1) := by decide +kernel
theorem dX9_votes_38 : decode cX9_votes 38 = .ok (.iload_n 3, 1) := by decide +kernel
theorem dX9_votes_39 : decode cX9_votes 39 = .ok (.iadd, 1) := by decide +kernel
theorem dX9_votes_40 : decode cX9_votes 40 = .ok (.iaload, 1) := by decide +kernel
theorem dX9_votes_41 : decode cX9_votes 41 = .ok (.goto 5, 3) := by decide +kernel
theorem dX9_votes_44 : decode cX9_votes 44 = .ok (.bipush (-2), 2) := by decide +kernel
theorem dX9_votes_46 : decode cX9_votes 46 = .ok (.ireturn, 1) := by decide +kernel
theorem dX9_splitNow_0 : decode cX9_splitNow 0 = .ok (.aload_n 0, 1) := by decide +kernel
theorem dX9_splitNow_1 : decode cX9_splitNow 1 = .ok (.iconst 0, 1) := by decide +kernel
theorem dX9_splitNow_2 : decode cX9_splitNow 2 = .ok (.invokevirtual 203, 3) := by decide +kernel
theorem dX9_splitNow_5 : decode cX9_splitNow 5 = .ok (.iconst 0, 1) := by decide +kernel
theorem dX9_splitNow_6 : decode cX9_splitNow 6 = .ok (.istore_n 1, 1) := by decide +kernel
theorem dX9_splitNow_7 : decode cX9_splitNow 7 = .ok (.iload_n 1, 1) := by decide +kernel
theorem dX9_splitNow_8 : decode cX9_splitNow 8 = .ok (.bipush 30, 2) := by decide +kernel
theorem dX9_splitNow_10 : decode cX9_splitNow 10 = .ok (.if_icmp .ge 25, 3) := by decide +kernel
theorem dX9_splitNow_13 : decode cX9_splitNow 13 = .ok (.aload_n 0, 1) := by decide +kernel
theorem dX9_splitNow_14 : decode cX9_splitNow 14 = .ok (.getfield 49, 3) := by decide +kernel
theorem dX9_splitNow_17 : decode cX9_splitNow 17 = .ok (.iload_n 1, 1) := by decide +kernel
theorem dX9_splitNow_18 : decode cX9_splitNow 18 = .ok (.aload_n 0, 1) := by decide +kernel
theorem dX9_splitNow_19 : decode cX9_splitNow 19 = .ok (.iload_n 1, 1) := by decide +kernel
theorem dX9_splitNow_20 : decode cX9_splitNow 20 = .ok (.iconst 3, 1) := by decide +kernel
theorem dX9_splitNow_21 : decode cX9_splitNow 21 = .ok (.idiv, 1) := by decide +kernel
theorem dX9_splitNow_22 : decode cX9_splitNow 22 = .ok (.iload_n 1, 1) := by decide +kernel
theorem dX9_splitNow_23 : decode cX9_splitNow 23 = .ok (.iconst 3, 1) := by decide +kernel
theorem dX9_splitNow_24 : decode cX9_splitNow 24 = .ok (.irem, 1) := by decide +kernel
theorem dX9_splitNow_25 : decode cX9_splitNow 25 = .ok (.invokevirtual 210, 3) := by decide +kernel
theorem dX9_splitNow_28 : decode cX9_splitNow 28 = .ok (.iastore, 1) := by decide +kernel
theorem dX9_splitNow_29 : decode cX9_splitNow 29 = .ok (.iinc 1 1, 3) := by decide +kernel
theorem dX9_splitNow_32 : decode cX9_splitNow 32 = .ok (.goto (-25), 3) := by decide +kernel
theorem dX9_splitNow_35 : decode cX9_splitNow 35 = .ok (.aload_n 0, 1) := by decide +kernel
theorem dX9_splitNow_36 : decode cX9_splitNow 36 = .ok (.iconst 1, 1) := by decide +kernel
theorem dX9_splitNow_37 : decode cX9_splitNow 37 = .ok (.invokevirtual 203, 3) := by decide +kernel
theorem dX9_splitNow_40 : decode cX9_splitNow 40 = .ok (.iconst 0, 1) := by decide +kernel
theorem dX9_splitNow_41 : decode cX9_splitNow 41 = .ok (.istore_n 1, 1) := by decide +kernel
theorem dX9_splitNow_42 : decode cX9_splitNow 42 = .ok (.iconst 0, 1) := by decide +kernel
theorem dX9_splitNow_43 : decode cX9_splitNow 43 = .ok (.istore_n 2, 1) := by decide +kernel
theorem dX9_splitNow_44 : decode cX9_splitNow 44 = .ok (.iload_n 2, 1) := by decide +kernel
theorem dX9_splitNow_45 : decode cX9_splitNow 45 = .ok (.bipush 30, 2) := by decide +kernel
theorem dX9_splitNow_47 : decode cX9_splitNow 47 = .ok (.if_icmp .ge 40, 3) := by decide +kernel
theorem dX9_splitNow_50 : decode cX9_splitNow 50 = .ok (.iload_n 1, 1) := by decide +kernel
theorem dX9_splitNow_51 : decode cX9_splitNow 51 = .ok (.aload_n 0, 1) := by decide +kernel
theorem dX9_splitNow_52 : decode cX9_splitNow 52 = .ok (.getfield 49, 3) := by decide +kernel
theorem dX9_splitNow_55 : decode cX9_splitNow 55 = .ok (.iload_n 2, 1) := by decide +kernel
theorem dX9_splitNow_56 : decode cX9_splitNow 56 = .ok (.iaload, 1) := by decide +kernel
theorem dX9_splitNow_57 : decode cX9_splitNow 57 = .ok (.aload_n 0, 1) := by decide +kernel
theorem dX9_splitNow_58 : decode cX9_splitNow 58 = .ok (.iload_n 2, 1) := by decide +kernel
theorem dX9_splitNow_59 : decode cX9_splitNow 59 = .ok (.iconst 3, 1) := by decide +kernel
theorem dX9_splitNow_60 : decode cX9_splitNow 60 = .ok (.idiv, 1) := by decide +kernel
theorem dX9_splitNow_61 : decode cX9_splitNow 61 = .ok (.iload_n 2, 1) := by decide +kernel
theorem dX9_splitNow_62 : decode cX9_splitNow 62 = .ok (.iconst 3, 1) := by decide +kernel
theorem dX9_splitNow_63 : decode cX9_splitNow 63 = .ok (.irem, 1) := by decide +kernel
theorem dX9_splitNow_64 : decode cX9_splitNow 64 = .ok (.invokevirtual 210, 3) := by decide +kernel
theorem dX9_splitNow_67 : decode cX9_splitNow 67 = .ok (.if_icmp .ne 7, 3) := by decide +kernel
theorem dX9_splitNow_70 : decode cX9_splitNow 70 = .ok (.iconst 0, 1) := by decide +kernel
theorem dX9_splitNow_71 : decode cX9_splitNow 71 = .ok (.goto 8, 3) := by decide +kernel
theorem dX9_splitNow_74 : decode cX9_splitNow 74 = .ok (.iconst 1, 1) := by decide +kernel
theorem dX9_splitNow_75 : decode cX9_splitNow 75 = .ok (.iload_n 2, 1) := by decide +kernel
theorem dX9_splitNow_76 : decode cX9_splitNow 76 = .ok (.iconst 3, 1) := by decide +kernel
theorem dX9_splitNow_77 : decode cX9_splitNow 77 = .ok (.idiv, 1) := by decide +kernel
theorem dX9_splitNow_78 : decode cX9_splitNow 78 = .ok (.ishl, 1) := by decide +kernel
theorem dX9_splitNow_79 : decode cX9_splitNow 79 = .ok (.ior, 1) := by decide +kernel
theorem dX9_splitNow_80 : decode cX9_splitNow 80 = .ok (.istore_n 1, 1) := by decide +kernel
theorem dX9_splitNow_81 : decode cX9_splitNow 81 = .ok (.iinc 2 1, 3) := by decide +kernel
theorem dX9_splitNow_84 : decode cX9_splitNow 84 = .ok (.goto (-40), 3) := by decide +kernel
theorem dX9_splitNow_87 : decode cX9_splitNow 87 = .ok (.iload_n 1, 1) := by decide +kernel
theorem dX9_splitNow_88 : decode cX9_splitNow 88 = .ok (.ireturn, 1) := by decide +kernel
theorem dX9_split_0 : decode cX9_split 0 = .ok (.aload_n 0, 1) := by decide +kernel
theorem dX9_split_1 : decode cX9_split 1 = .ok (.invokevirtual 213, 3) := by decide +kernel
theorem dX9_split_4 : decode cX9_split 4 = .ok (.ireturn, 1) := by decide +kernel
theorem dX9_contract_0 : decode cX9_contract 0 = .ok (.iload_n 1, 1) := by decide +kernel
theorem dX9_contract_1 : decode cX9_contract 1 = .ok (.invokestatic 160, 3) := by decide +kernel
theorem dX9_contract_4 : decode cX9_contract 4 = .ok (.ifCond .eq 39, 3) := by decide +kernel
theorem dX9_contract_7 : decode cX9_contract 7 = .ok (.iload_n 2, 1) := by decide +kernel
theorem dX9_contract_8 : decode cX9_contract 8 = .ok (.invokestatic 160, 3) := by decide +kernel
theorem dX9_contract_11 : decode cX9_contract 11 = .ok (.ifCond .eq 32, 3) := by decide +kernel
theorem dX9_contract_14 : decode cX9_contract 14 = .ok (.iload_n 1, 1) := by decide +kernel
theorem dX9_contract_15 : decode cX9_contract 15 = .ok (.iload_n 2, 1) := by decide +kernel
theorem dX9_contract_16 : decode cX9_contract 16 = .ok (.if_icmp .eq 27, 3) := by decide +kernel
theorem dX9_contract_19 : decode cX9_contract 19 = .ok (.iload_n 3, 1) := by decide +kernel
theorem dX9_contract_20 : decode cX9_contract 20 = .ok (.i2l, 1) := by decide +kernel
theorem dX9_contract_21 : decode cX9_contract 21 = .ok (.lconst 1, 1) := by decide +kernel
theorem dX9_contract_22 : decode cX9_contract 22 = .ok (.ldc2_w 134, 3) := by decide +kernel
theorem dX9_contract_25 : decode cX9_contract 25 = .ok (.invokestatic 88, 3) := by decide +kernel
theorem dX9_contract_28 : decode cX9_contract 28 = .ok (.ifCond .eq 15, 3) := by decide +kernel
theorem dX9_contract_31 : decode cX9_contract 31 = .ok (.iload 4, 2) := by decide +kernel
theorem dX9_contract_33 : decode cX9_contract 33 = .ok (.invokestatic 168, 3) := by decide +kernel
theorem dX9_contract_36 : decode cX9_contract 36 = .ok (.ifCond .eq 7, 3) := by decide +kernel
theorem dX9_contract_39 : decode cX9_contract 39 = .ok (.iconst 1, 1) := by decide +kernel
theorem dX9_contract_40 : decode cX9_contract 40 = .ok (.goto 4, 3) := by decide +kernel
theorem dX9_contract_43 : decode cX9_contract 43 = .ok (.iconst 0, 1) := by decide +kernel
theorem dX9_contract_44 : decode cX9_contract 44 = .ok (.istore 7, 2) := by decide +kernel
theorem dX9_contract_46 : decode cX9_contract 46 = .ok (.iload 7, 2) := by decide +kernel
theorem dX9_contract_48 : decode cX9_contract 48 = .ok (.ifCond .eq 28, 3) := by decide +kernel
theorem dX9_contract_51 : decode cX9_contract 51 = .ok (.iload 5, 2) := by decide +kernel
theorem dX9_contract_53 : decode cX9_contract 53 = .ok (.invokestatic 165, 3) := by decide +kernel
theorem dX9_contract_56 : decode cX9_contract 56 = .ok (.ifCond .eq 20, 3) := by decide +kernel
theorem dX9_contract_59 : decode cX9_contract 59 = .ok (.iload 6, 2) := by decide +kernel
theorem dX9_contract_61 : decode cX9_contract 61 = .ok (.i2l, 1) := by decide +kernel
theorem dX9_contract_62 : decode cX9_contract 62 = .ok (.iload 5, 2) := by decide +kernel
theorem dX9_contract_64 : decode cX9_contract 64 = .ok (.iconst 1, 1) := by decide +kernel
theorem dX9_contract_65 : decode cX9_contract 65 = .ok (.iadd, 1) := by decide +kernel
theorem dX9_contract_66 : decode cX9_contract 66 = .ok (.i2l, 1) := by decide +kernel
theorem dX9_contract_67 : decode cX9_contract 67 = .ok (.ldc2_w 147, 3) := by decide +kernel
theorem dX9_contract_70 : decode cX9_contract 70 = .ok (.invokestatic 88, 3) := by decide +kernel
theorem dX9_contract_73 : decode cX9_contract 73 = .ok (.ifCond .ne 6, 3) := by decide +kernel
theorem dX9_contract_76 : decode cX9_contract 76 = .ok (.bipush (-2), 2) := by decide +kernel
theorem dX9_contract_78 : decode cX9_contract 78 = .ok (.ireturn, 1) := by decide +kernel
theorem dX9_contract_79 : decode cX9_contract 79 = .ok (.aload_n 0, 1) := by decide +kernel
theorem dX9_contract_80 : decode cX9_contract 80 = .ok (.getfield 217, 3) := by decide +kernel
theorem dX9_contract_83 : decode cX9_contract 83 = .ok (.bipush 8, 2) := by decide +kernel
theorem dX9_contract_85 : decode cX9_contract 85 = .ok (.if_icmp .ne 6, 3) := by decide +kernel
theorem dX9_contract_88 : decode cX9_contract 88 = .ok (.bipush (-4), 2) := by decide +kernel
theorem dX9_contract_90 : decode cX9_contract 90 = .ok (.ireturn, 1) := by decide +kernel
theorem dX9_contract_91 : decode cX9_contract 91 = .ok (.bipush 6, 2) := by decide +kernel
theorem dX9_contract_93 : decode cX9_contract 93 = .ok (.aload_n 0, 1) := by decide +kernel
theorem dX9_contract_94 : decode cX9_contract 94 = .ok (.getfield 217, 3) := by decide +kernel
theorem dX9_contract_97 : decode cX9_contract 97 = .ok (.imul, 1) := by decide +kernel
theorem dX9_contract_98 : decode cX9_contract 98 = .ok (.istore 8, 2) := by decide +kernel
theorem dX9_contract_100 : decode cX9_contract 100 = .ok (.aload_n 0, 1) := by decide +kernel
theorem dX9_contract_101 : decode cX9_contract 101 = .ok (.getfield 52, 3) := by decide +kernel
theorem dX9_contract_104 : decode cX9_contract 104 = .ok (.iload 8, 2) := by decide +kernel
theorem dX9_contract_106 : decode cX9_contract 106 = .ok (.iload_n 1, 1) := by decide +kernel
theorem dX9_contract_107 : decode cX9_contract 107 = .ok (.iastore, 1) := by decide +kernel
theorem dX9_contract_108 : decode cX9_contract 108 = .ok (.aload_n 0, 1) := by decide +kernel
theorem dX9_contract_109 : decode cX9_contract 109 = .ok (.getfield 52, 3) := by decide +kernel
theorem dX9_contract_112 : decode cX9_contract 112 = .ok (.iload 8, 2) := by decide +kernel
theorem dX9_contract_114 : decode cX9_contract 114 = .ok (.iconst 1, 1) := by decide +kernel
theorem dX9_contract_115 : decode cX9_contract 115 = .ok (.iadd, 1) := by decide +kernel
theorem dX9_contract_116 : decode cX9_contract 116 = .ok (.iload_n 2, 1) := by decide +kernel
theorem dX9_contract_117 : decode cX9_contract 117 = .ok (.iastore, 1) := by decide +kernel
theorem dX9_contract_118 : decode cX9_contract 118 = .ok (.aload_n 0, 1) := by decide +kernel
theorem dX9_contract_119 : decode cX9_contract 119 = .ok (.getfield 52, 3) := by decide +kernel
theorem dX9_contract_122 : decode cX9_contract 122 = .ok (.iload 8, 2) := by decide +kernel
theorem dX9_contract_124 : decode cX9_contract 124 = .ok (.iconst 2, 1) := by decide +kernel
theorem dX9_contract_125 : decode cX9_contract 125 = .ok (.iadd, 1) := by decide +kernel
theorem dX9_contract_126 : decode cX9_contract 126 = .ok (.iload_n 3, 1) := by decide +kernel
theorem dX9_contract_127 : decode cX9_contract 127 = .ok (.iastore, 1) := by decide +kernel
theorem dX9_contract_128 : decode cX9_contract 128 = .ok (.aload_n 0, 1) := by decide +kernel
theorem dX9_contract_129 : decode cX9_contract 129 = .ok (.getfield 52, 3) := by decide +kernel
theorem dX9_contract_132 : decode cX9_contract 132 = .ok (.iload 8, 2) := by decide +kernel
theorem dX9_contract_134 : decode cX9_contract 134 = .ok (.iconst 3, 1) := by decide +kernel
theorem dX9_contract_135 : decode cX9_contract 135 = .ok (.iadd, 1) := by decide +kernel
theorem dX9_contract_136 : decode cX9_contract 136 = .ok (.iload 4, 2) := by decide +kernel
theorem dX9_contract_138 : decode cX9_contract 138 = .ok (.iastore, 1) := by decide +kernel
theorem dX9_contract_139 : decode cX9_contract 139 = .ok (.aload_n 0, 1) := by decide +kernel
theorem dX9_contract_140 : decode cX9_contract 140 = .ok (.getfield 52, 3) := by decide +kernel
theorem dX9_contract_143 : decode cX9_contract 143 = .ok (.iload 8, 2) := by decide +kernel
theorem dX9_contract_145 : decode cX9_contract 145 = .ok (.iconst 4, 1) := by decide +kernel
theorem dX9_contract_146 : decode cX9_contract 146 = .ok (.iadd, 1) := by decide +kernel
theorem dX9_contract_147 : decode cX9_contract 147 = .ok (.iload 5, 2) := by decide +kernel
theorem dX9_contract_149 : decode cX9_contract 149 = .ok (.iastore, 1) := by decide +kernel
theorem dX9_contract_150 : decode cX9_contract 150 = .ok (.aload_n 0, 1) := by decide +kernel
theorem dX9_contract_151 : decode cX9_contract 151 = .ok (.getfield 52, 3) := by decide +kernel
theorem dX9_contract_154 : decode cX9_contract 154 = .ok (.iload 8, 2) := by decide +kernel
theorem dX9_contract_156 : decode cX9_contract 156 = .ok (.iconst 5, 1) := by decide +kernel
theorem dX9_contract_157 : decode cX9_contract 157 = .ok (.iadd, 1) := by decide +kernel
theorem dX9_contract_158 : decode cX9_contract 158 = .ok (.iload 6, 2) := by decide +kernel
theorem dX9_contract_160 : decode cX9_contract 160 = .ok (.iastore, 1) := by decide +kernel
theorem dX9_contract_161 : decode cX9_contract 161 = .ok (.aload_n 0, 1) := by decide +kernel
theorem dX9_contract_162 : decode cX9_contract 162 = .ok (.dup, 1) := by decide +kernel
theorem dX9_contract_163 : decode cX9_contract 163 = .ok (.getfield 217, 3) := by decide +kernel
theorem dX9_contract_166 : decode cX9_contract 166 = .ok (.iconst 1, 1) := by decide +kernel
theorem dX9_contract_167 : decode cX9_contract 167 = .ok (.iadd, 1) := by decide +kernel
theorem dX9_contract_168 : decode cX9_contract 168 = .ok (.putfield 217, 3) := by decide +kernel
theorem dX9_contract_171 : decode cX9_contract 171 = .ok (.aload_n 0, 1) := by decide +kernel
theorem dX9_contract_172 : decode cX9_contract 172 = .ok (.getfield 217, 3) := by decide +kernel
theorem dX9_contract_175 : decode cX9_contract 175 = .ok (.ireturn, 1) := by decide +kernel
theorem dX9_paysBy_0 : decode cX9_paysBy 0 = .ok (.aload_n 0, 1) := by decide +kernel
theorem dX9_paysBy_1 : decode cX9_paysBy 1 = .ok (.getfield 52, 3) := by decide +kernel
theorem dX9_paysBy_4 : decode cX9_paysBy 4 = .ok (.bipush 6, 2) := by decide +kernel
theorem dX9_paysBy_6 : decode cX9_paysBy 6 = .ok (.iload_n 1, 1) := by decide +kernel
theorem dX9_paysBy_7 : decode cX9_paysBy 7 = .ok (.imul, 1) := by decide +kernel
theorem dX9_paysBy_8 : decode cX9_paysBy 8 = .ok (.iconst 2, 1) := by decide +kernel
theorem dX9_paysBy_9 : decode cX9_paysBy 9 = .ok (.iadd, 1) := by decide +kernel
theorem dX9_paysBy_10 : decode cX9_paysBy 10 = .ok (.iaload, 1) := by decide +kernel
theorem dX9_paysBy_11 : decode cX9_paysBy 11 = .ok (.aload_n 0, 1) := by decide +kernel
theorem dX9_paysBy_12 : decode cX9_paysBy 12 = .ok (.iload_n 2, 1) := by decide +kernel
theorem dX9_paysBy_13 : decode cX9_paysBy 13 = .ok (.aload_n 0, 1) := by decide +kernel
theorem dX9_paysBy_14 : decode cX9_paysBy 14 = .ok (.getfield 52, 3) := by decide +kernel
theorem dX9_paysBy_17 : decode cX9_paysBy 17 = .ok (.bipush 6, 2) := by decide +kernel
theorem dX9_paysBy_19 : decode cX9_paysBy 19 = .ok (.iload_n 1, 1) := by decide +kernel
theorem dX9_paysBy_20 : decode cX9_paysBy 20 = .ok (.imul, 1) := by decide +kernel
theorem dX9_paysBy_21 : decode cX9_paysBy 21 = .ok (.iconst 3, 1) := by decide +kernel
theorem dX9_paysBy_22 : decode cX9_paysBy 22 = .ok (.iadd, 1) := by decide +kernel
theorem dX9_paysBy_23 : decode cX9_paysBy 23 = .ok (.iaload, 1) := by decide +kernel
theorem dX9_paysBy_24 : decode cX9_paysBy 24 = .ok (.invokevirtual 210, 3) := by decide +kernel
theorem dX9_paysBy_27 : decode cX9_paysBy 27 = .ok (.imul, 1) := by decide +kernel
theorem dX9_paysBy_28 : decode cX9_paysBy 28 = .ok (.ireturn, 1) := by decide +kernel
theorem dX9_pays_0 : decode cX9_pays 0 = .ok (.aload_n 0, 1) := by decide +kernel
theorem dX9_pays_1 : decode cX9_pays 1 = .ok (.iload_n 1, 1) := by decide +kernel
theorem dX9_pays_2 : decode cX9_pays 2 = .ok (.aload_n 0, 1) := by decide +kernel
theorem dX9_pays_3 : decode cX9_pays 3 = .ok (.getfield 52, 3) := by decide +kernel
theorem dX9_pays_6 : decode cX9_pays 6 = .ok (.bipush 6, 2) := by decide +kernel
theorem dX9_pays_8 : decode cX9_pays 8 = .ok (.iload_n 1, 1) := by decide +kernel
theorem dX9_pays_9 : decode cX9_pays 9 = .ok (.imul, 1) := by decide +kernel
theorem dX9_pays_10 : decode cX9_pays 10 = .ok (.iconst 4, 1) := by decide +kernel
theorem dX9_pays_11 : decode cX9_pays 11 = .ok (.iadd, 1) := by decide +kernel
theorem dX9_pays_12 : decode cX9_pays 12 = .ok (.aload_n 0, 1) := by decide +kernel
theorem dX9_pays_13 : decode cX9_pays 13 = .ok (.getfield 34, 3) := by decide +kernel
theorem dX9_pays_16 : decode cX9_pays 16 = .ok (.iconst 1, 1) := by decide +kernel
theorem dX9_pays_17 : decode cX9_pays 17 = .ok (.iaload, 1) := by decide +kernel
theorem dX9_pays_18 : decode cX9_pays 18 = .ok (.iadd, 1) := by decide +kernel
theorem dX9_pays_19 : decode cX9_pays 19 = .ok (.iaload, 1) := by decide +kernel
theorem dX9_pays_20 : decode cX9_pays 20 = .ok (.invokevirtual 220, 3) := by decide +kernel
theorem dX9_pays_23 : decode cX9_pays 23 = .ok (.ireturn, 1) := by decide +kernel
theorem dX9_moneyOf_0 : decode cX9_moneyOf 0 = .ok (.aload_n 0, 1) := by decide +kernel
theorem dX9_moneyOf_1 : decode cX9_moneyOf 1 = .ok (.getfield 37, 3) := by decide +kernel
theorem dX9_moneyOf_4 : decode cX9_moneyOf 4 = .ok (.iload_n 1, 1) := by decide +kernel
theorem dX9_moneyOf_5 : decode cX9_moneyOf 5 = .ok (.iaload, 1) := by decide +kernel
theorem dX9_moneyOf_6 : decode cX9_moneyOf 6 = .ok (.istore_n 3, 1) := by decide +kernel
theorem dX9_moneyOf_7 : decode cX9_moneyOf 7 = .ok (.iconst 0, 1) := by decide +kernel
theorem dX9_moneyOf_8 : decode cX9_moneyOf 8 = .ok (.istore 4, 2) := by decide +kernel
theorem dX9_moneyOf_10 : decode cX9_moneyOf 10 = .ok (.iload 4, 2) := by decide +kernel
theorem dX9_moneyOf_12 : decode cX9_moneyOf 12 = .ok (.aload_n 0, 1) := by decide +kernel
theorem dX9_moneyOf_13 : decode cX9_moneyOf 13 = .ok (.getfield 217, 3) := by decide +kernel
theorem dX9_moneyOf_16 : decode cX9_moneyOf 16 = .ok (.if_icmp .ge 81, 3) := by decide +kernel
theorem dX9_moneyOf_19 : decode cX9_moneyOf 19 = .ok (.aload_n 0, 1) := by decide +kernel
theorem dX9_moneyOf_20 : decode cX9_moneyOf 20 = .ok (.getfield 52, 3) := by decide +kernel
theorem dX9_moneyOf_23 : decode cX9_moneyOf 23 = .ok (.bipush 6, 2) := by decide +kernel
theorem dX9_moneyOf_25 : decode cX9_moneyOf 25 = .ok (.iload 4, 2) := by decide +kernel
theorem dX9_moneyOf_27 : decode cX9_moneyOf 27 = .ok (.imul, 1) := by decide +kernel
theorem dX9_moneyOf_28 : decode cX9_moneyOf 28 = .ok (.iconst 5, 1) := by decide +kernel
theorem dX9_moneyOf_29 : decode cX9_moneyOf 29 = .ok (.iadd, 1) := by decide +kernel
theorem dX9_moneyOf_30 : decode cX9_moneyOf 30 = .ok (.iaload, 1) := by decide +kernel
theorem dX9_moneyOf_31 : decode cX9_moneyOf 31 = .ok (.iload_n 2, 1) := by decide +kernel
theorem dX9_moneyOf_32 : decode cX9_moneyOf 32 = .ok (.if_icmp .gt 59, 3) := by decide +kernel
theorem dX9_moneyOf_35 : decode cX9_moneyOf 35 = .ok (.iload_n 3, 1) := by decide +kernel
theorem dX9_moneyOf_36 : decode cX9_moneyOf 36 = .ok (.aload_n 0, 1) := by decide +kernel
theorem dX9_moneyOf_37 : decode cX9_moneyOf 37 = .ok (.getfield 52, 3) := by decide +kernel
theorem dX9_moneyOf_40 : decode cX9_moneyOf 40 = .ok (.bipush 6, 2) := by decide +kernel
theorem dX9_moneyOf_42 : decode cX9_moneyOf 42 = .ok (.iload 4, 2) := by decide +kernel
theorem dX9_moneyOf_44 : decode cX9_moneyOf 44 = .ok (.imul, 1) := by decide +kernel
theorem dX9_moneyOf_45 : decode cX9_moneyOf 45 = .ok (.iaload, 1) := by decide +kernel
theorem dX9_moneyOf_46 : decode cX9_moneyOf 46 = .ok (.iload_n 1, 1) := by decide +kernel
theorem dX9_moneyOf_47 : decode cX9_moneyOf 47 = .ok (.if_icmp .ne 12, 3) := by decide +kernel
theorem dX9_moneyOf_50 : decode cX9_moneyOf 50 = .ok (.aload_n 0, 1) := by decide +kernel
theorem dX9_moneyOf_51 : decode cX9_moneyOf 51 = .ok (.iload 4, 2) := by decide +kernel
theorem dX9_moneyOf_53 : decode cX9_moneyOf 53 = .ok (.invokevirtual 223, 3) := by decide +kernel
theorem dX9_moneyOf_56 : decode cX9_moneyOf 56 = .ok (.goto 4, 3) := by decide +kernel
theorem dX9_moneyOf_59 : decode cX9_moneyOf 59 = .ok (.iconst 0, 1) := by decide +kernel
theorem dX9_moneyOf_60 : decode cX9_moneyOf 60 = .ok (.isub, 1) := by decide +kernel
theorem dX9_moneyOf_61 : decode cX9_moneyOf 61 = .ok (.istore_n 3, 1) := by decide +kernel
theorem dX9_moneyOf_62 : decode cX9_moneyOf 62 = .ok (.iload_n 3, 1) := by decide +kernel
theorem dX9_moneyOf_63 : decode cX9_moneyOf 63 = .ok (.aload_n 0, 1) := by decide +kernel
theorem dX9_moneyOf_64 : decode cX9_moneyOf 64 = .ok (.getfield 52, 3) := by decide +kernel
theorem dX9_moneyOf_67 : decode cX9_moneyOf 67 = .ok (.bipush 6, 2) := by decide +kernel
theorem dX9_moneyOf_69 : decode cX9_moneyOf 69 = .ok (.iload 4, 2) := by decide +kernel
theorem dX9_moneyOf_71 : decode cX9_moneyOf 71 = .ok (.imul, 1) := by decide +kernel
theorem dX9_moneyOf_72 : decode cX9_moneyOf 72 = .ok (.iconst 1, 1) := by decide +kernel
theorem dX9_moneyOf_73 : decode cX9_moneyOf 73 = .ok (.iadd, 1) := by decide +kernel
theorem dX9_moneyOf_74 : decode cX9_moneyOf 74 = .ok (.iaload, 1) := by decide +kernel
theorem dX9_moneyOf_75 : decode cX9_moneyOf 75 = .ok (.iload_n 1, 1) := by decide +kernel
theorem dX9_moneyOf_76 : decode cX9_moneyOf 76 = .ok (.if_icmp .ne 12, 3) := by decide +kernel
theorem dX9_moneyOf_79 : decode cX9_moneyOf 79 = .ok (.aload_n 0, 1) := by decide +kernel
theorem dX9_moneyOf_80 : decode cX9_moneyOf 80 = .ok (.iload 4, 2) := by decide +kernel
theorem dX9_moneyOf_82 : decode cX9_moneyOf 82 = .ok (.invokevirtual 223, 3) := by decide +kernel
theorem dX9_moneyOf_85 : decode cX9_moneyOf 85 = .ok (.goto 4, 3) := by decide +kernel
theorem dX9_moneyOf_88 : decode cX9_moneyOf 88 = .ok (.iconst 0, 1) := by decide +kernel
theorem dX9_moneyOf_89 : decode cX9_moneyOf 89 = .ok (.iadd, 1) := by decide +kernel
theorem dX9_moneyOf_90 : decode cX9_moneyOf 90 = .ok (.istore_n 3, 1) := by decide +kernel
theorem dX9_moneyOf_91 : decode cX9_moneyOf 91 = .ok (.iinc 4 1, 3) := by decide +kernel
theorem dX9_moneyOf_94 : decode cX9_moneyOf 94 = .ok (.goto (-84), 3) := by decide +kernel
theorem dX9_moneyOf_97 : decode cX9_moneyOf 97 = .ok (.iload_n 3, 1) := by decide +kernel
theorem dX9_moneyOf_98 : decode cX9_moneyOf 98 = .ok (.ireturn, 1) := by decide +kernel
theorem dX9_money_0 : decode cX9_money 0 = .ok (.aload_n 0, 1) := by decide +kernel
theorem dX9_money_1 : decode cX9_money 1 = .ok (.invokevirtual 207, 3) := by decide +kernel
theorem dX9_money_4 : decode cX9_money 4 = .ok (.iload_n 1, 1) := by decide +kernel
theorem dX9_money_5 : decode cX9_money 5 = .ok (.invokestatic 160, 3) := by decide +kernel
theorem dX9_money_8 : decode cX9_money 8 = .ok (.ifCond .eq 19, 3) := by decide +kernel
theorem dX9_money_11 : decode cX9_money 11 = .ok (.iload_n 2, 1) := by decide +kernel
theorem dX9_money_12 : decode cX9_money 12 = .ok (.invokestatic 165, 3) := by decide +kernel
theorem dX9_money_15 : decode cX9_money 15 = .ok (.ifCond .eq 12, 3) := by decide +kernel
theorem dX9_money_18 : decode cX9_money 18 = .ok (.aload_n 0, 1) := by decide +kernel
theorem dX9_money_19 : decode cX9_money 19 = .ok (.iload_n 1, 1) := by decide +kernel
theorem dX9_money_20 : decode cX9_money 20 = .ok (.iload_n 2, 1) := by decide +kernel
theorem dX9_money_21 : decode cX9_money 21 = .ok (.invokevirtual 226, 3) := by decide +kernel
theorem dX9_money_24 : decode cX9_money 24 = .ok (.goto 5, 3) := by decide +kernel
theorem dX9_money_27 : decode cX9_money 27 = .ok (.ldc 229, 2) := by decide +kernel
theorem dX9_money_29 : decode cX9_money 29 = .ok (.ireturn, 1) := by decide +kernel
theorem dX9_ruinedOf_0 : decode cX9_ruinedOf 0 = .ok (.iconst 0, 1) := by decide +kernel
theorem dX9_ruinedOf_1 : decode cX9_ruinedOf 1 = .ok (.istore_n 2, 1) := by decide +kernel
theorem dX9_ruinedOf_2 : decode cX9_ruinedOf 2 = .ok (.iload_n 2, 1) := by decide +kernel
theorem dX9_ruinedOf_3 : decode cX9_ruinedOf 3 = .ok (.bipush 8, 2) := by decide +kernel
theorem dX9_ruinedOf_5 : decode cX9_ruinedOf 5 = .ok (.if_icmp .ge 21, 3) := by decide +kernel
theorem dX9_ruinedOf_8 : decode cX9_ruinedOf 8 = .ok (.aload_n 0, 1) := by decide +kernel
theorem dX9_ruinedOf_9 : decode cX9_ruinedOf 9 = .ok (.getfield 55, 3) := by decide +kernel
theorem dX9_ruinedOf_12 : decode cX9_ruinedOf 12 = .ok (.iload_n 2, 1) := by decide +kernel
theorem dX9_ruinedOf_13 : decode cX9_ruinedOf 13 = .ok (.aload_n 0, 1) := by decide +kernel
theorem dX9_ruinedOf_14 : decode cX9_ruinedOf 14 = .ok (.getfield 37, 3) := by decide +kernel
theorem dX9_ruinedOf_17 : decode cX9_ruinedOf 17 = .ok (.iload_n 2, 1) := by decide +kernel
theorem dX9_ruinedOf_18 : decode cX9_ruinedOf 18 = .ok (.iaload, 1) := by decide +kernel
theorem dX9_ruinedOf_19 : decode cX9_ruinedOf 19 = .ok (.iastore, 1) := by decide +kernel
theorem dX9_ruinedOf_20 : decode cX9_ruinedOf 20 = .ok (.iinc 2 1, 3) := by decide +kernel
theorem dX9_ruinedOf_23 : decode cX9_ruinedOf 23 = .ok (.goto (-21), 3) := by decide +kernel
theorem dX9_ruinedOf_26 : decode cX9_ruinedOf 26 = .ok (.iconst 0, 1) := by decide +kernel
theorem dX9_ruinedOf_27 : decode cX9_ruinedOf 27 = .ok (.istore_n 2, 1) := by decide +kernel
theorem dX9_ruinedOf_28 : decode cX9_ruinedOf 28 = .ok (.iload_n 2, 1) := by decide +kernel
theorem dX9_ruinedOf_29 : decode cX9_ruinedOf 29 = .ok (.bipush 10, 2) := by decide +kernel
theorem dX9_ruinedOf_31 : decode cX9_ruinedOf 31 = .ok (.if_icmp .ge 111, 3) := by decide +kernel
theorem dX9_ruinedOf_34 : decode cX9_ruinedOf 34 = .ok (.iconst 0, 1) := by decide +kernel
theorem dX9_ruinedOf_35 : decode cX9_ruinedOf 35 = .ok (.istore_n 3, 1) := by decide +kernel
theorem dX9_ruinedOf_36 : decode cX9_ruinedOf 36 = .ok (.iload_n 3, 1) := by decide +kernel
theorem dX9_ruinedOf_37 : decode cX9_ruinedOf 37 = .ok (.aload_n 0, 1) := by decide +kernel
theorem dX9_ruinedOf_38 : decode cX9_ruinedOf 38 = .ok (.getfield 217, 3) := by decide +kernel
theorem dX9_ruinedOf_41 : decode cX9_ruinedOf 41 = .ok (.if_icmp .ge 95, 3) := by decide +kernel
theorem dX9_ruinedOf_44 : decode cX9_ruinedOf 44 = .ok (.aload_n 0, 1) := by decide +kernel
theorem dX9_ruinedOf_45 : decode cX9_ruinedOf 45 = .ok (.getfield 52, 3) := by decide +kernel
theorem dX9_ruinedOf_48 : decode cX9_ruinedOf 48 = .ok (.bipush 6, 2) := by decide +kernel
theorem dX9_ruinedOf_50 : decode cX9_ruinedOf 50 = .ok (.iload_n 3, 1) := by decide +kernel
theorem dX9_ruinedOf_51 : decode cX9_ruinedOf 51 = .ok (.imul, 1) := by decide +kernel
theorem dX9_ruinedOf_52 : decode cX9_ruinedOf 52 = .ok (.iconst 5, 1) := by decide +kernel
theorem dX9_ruinedOf_53 : decode cX9_ruinedOf 53 = .ok (.iadd, 1) := by decide +kernel
theorem dX9_ruinedOf_54 : decode cX9_ruinedOf 54 = .ok (.iaload, 1) := by decide +kernel
theorem dX9_ruinedOf_55 : decode cX9_ruinedOf 55 = .ok (.iload_n 2, 1) := by decide +kernel
theorem dX9_ruinedOf_56 : decode cX9_ruinedOf 56 = .ok (.if_icmp .ne 74, 3) := by decide +kernel
theorem dX9_ruinedOf_59 : decode cX9_ruinedOf 59 = .ok (.aload_n 0, 1) := by decide +kernel
theorem dX9_ruinedOf_60 : decode cX9_ruinedOf 60 = .ok (.getfield 52, 3) := by decide +kernel
theorem dX9_ruinedOf_63 : decode cX9_ruinedOf 63 = .ok (.bipush 6, 2) := by decide +kernel
theorem dX9_ruinedOf_65 : decode cX9_ruinedOf 65 = .ok (.iload_n 3, 1) := by decide +kernel
theorem dX9_ruinedOf_66 : decode cX9_ruinedOf 66 = .ok (.imul, 1) := by decide +kernel
theorem dX9_ruinedOf_67 : decode cX9_ruinedOf 67 = .ok (.iaload, 1) := by decide +kernel
theorem dX9_ruinedOf_68 : decode cX9_ruinedOf 68 = .ok (.istore 4, 2) := by decide +kernel
theorem dX9_ruinedOf_70 : decode cX9_ruinedOf 70 = .ok (.aload_n 0, 1) := by decide +kernel
theorem dX9_ruinedOf_71 : decode cX9_ruinedOf 71 = .ok (.getfield 55, 3) := by decide +kernel
theorem dX9_ruinedOf_74 : decode cX9_ruinedOf 74 = .ok (.iload 4, 2) := by decide +kernel
theorem dX9_ruinedOf_76 : decode cX9_ruinedOf 76 = .ok (.dup2, 1) := by decide +kernel
theorem dX9_ruinedOf_77 : decode cX9_ruinedOf 77 = .ok (.iaload, 1) := by decide +kernel
theorem dX9_ruinedOf_78 : decode cX9_ruinedOf 78 = .ok (.aload_n 0, 1) := by decide +kernel
theorem dX9_ruinedOf_79 : decode cX9_ruinedOf 79 = .ok (.iload_n 3, 1) := by decide +kernel
theorem dX9_ruinedOf_80 : decode cX9_ruinedOf 80 = .ok (.invokevirtual 223, 3) := by decide +kernel
theorem dX9_ruinedOf_83 : decode cX9_ruinedOf 83 = .ok (.isub, 1) := by decide +kernel
theorem dX9_ruinedOf_84 : decode cX9_ruinedOf 84 = .ok (.iastore, 1) := by decide +kernel
theorem dX9_ruinedOf_85 : decode cX9_ruinedOf 85 = .ok (.aload_n 0, 1) := by decide +kernel
theorem dX9_ruinedOf_86 : decode cX9_ruinedOf 86 = .ok (.getfield 55, 3) := by decide +kernel
theorem dX9_ruinedOf_89 : decode cX9_ruinedOf 89 = .ok (.aload_n 0, 1) := by decide +kernel
theorem dX9_ruinedOf_90 : decode cX9_ruinedOf 90 = .ok (.getfield 52, 3) := by decide +kernel
theorem dX9_ruinedOf_93 : decode cX9_ruinedOf 93 = .ok (.bipush 6, 2) := by decide +kernel
theorem dX9_ruinedOf_95 : decode cX9_ruinedOf 95 = .ok (.iload_n 3, 1) := by decide +kernel
theorem dX9_ruinedOf_96 : decode cX9_ruinedOf 96 = .ok (.imul, 1) := by decide +kernel
theorem dX9_ruinedOf_97 : decode cX9_ruinedOf 97 = .ok (.iconst 1, 1) := by decide +kernel
theorem dX9_ruinedOf_98 : decode cX9_ruinedOf 98 = .ok (.iadd, 1) := by decide +kernel
theorem dX9_ruinedOf_99 : decode cX9_ruinedOf 99 = .ok (.iaload, 1) := by decide +kernel
theorem dX9_ruinedOf_100 : decode cX9_ruinedOf 100 = .ok (.dup2, 1) := by decide +kernel
theorem dX9_ruinedOf_101 : decode cX9_ruinedOf 101 = .ok (.iaload, 1) := by decide +kernel
theorem dX9_ruinedOf_102 : decode cX9_ruinedOf 102 = .ok (.aload_n 0, 1) := by decide +kernel
theorem dX9_ruinedOf_103 : decode cX9_ruinedOf 103 = .ok (.iload_n 3, 1) := by decide +kernel
theorem dX9_ruinedOf_104 : decode cX9_ruinedOf 104 = .ok (.invokevirtual 223, 3) := by decide +kernel
theorem dX9_ruinedOf_107 : decode cX9_ruinedOf 107 = .ok (.iadd, 1) := by decide +kernel
theorem dX9_ruinedOf_108 : decode cX9_ruinedOf 108 = .ok (.iastore, 1) := by decide +kernel
theorem dX9_ruinedOf_109 : decode cX9_ruinedOf 109 = .ok (.aload_n 0, 1) := by decide +kernel
theorem dX9_ruinedOf_110 : decode cX9_ruinedOf 110 = .ok (.getfield 55, 3) := by decide +kernel
theorem dX9_ruinedOf_113 : decode cX9_ruinedOf 113 = .ok (.iload 4, 2) := by decide +kernel
theorem dX9_ruinedOf_115 : decode cX9_ruinedOf 115 = .ok (.iaload, 1) := by decide +kernel
theorem dX9_ruinedOf_116 : decode cX9_ruinedOf 116 = .ok (.ifCond .ge 14, 3) := by decide +kernel
theorem dX9_ruinedOf_119 : decode cX9_ruinedOf 119 = .ok (.iload_n 1, 1) := by decide +kernel
theorem dX9_ruinedOf_120 : decode cX9_ruinedOf 120 = .ok (.ifCond .ne 8, 3) := by decide +kernel
theorem dX9_ruinedOf_123 : decode cX9_ruinedOf 123 = .ok (.iload 4, 2) := by decide +kernel
theorem dX9_ruinedOf_125 : decode cX9_ruinedOf 125 = .ok (.goto 4, 3) := by decide +kernel
theorem dX9_ruinedOf_128 : decode cX9_ruinedOf 128 = .ok (.iload_n 2, 1) := by decide +kernel
theorem dX9_ruinedOf_129 : decode cX9_ruinedOf 129 = .ok (.ireturn, 1) := by decide +kernel
theorem dX9_ruinedOf_130 : decode cX9_ruinedOf 130 = .ok (.iinc 3 1, 3) := by decide +kernel
theorem dX9_ruinedOf_133 : decode cX9_ruinedOf 133 = .ok (.goto (-97), 3) := by decide +kernel
theorem dX9_ruinedOf_136 : decode cX9_ruinedOf 136 = .ok (.iinc 2 1, 3) := by decide +kernel
theorem dX9_ruinedOf_139 : decode cX9_ruinedOf 139 = .ok (.goto (-111), 3) := by decide +kernel
theorem dX9_ruinedOf_142 : decode cX9_ruinedOf 142 = .ok (.iconst (-1), 1) := by decide +kernel
theorem dX9_ruinedOf_143 : decode cX9_ruinedOf 143 = .ok (.ireturn, 1) := by decide +kernel
theorem dX9_ruined_0 : decode cX9_ruined 0 = .ok (.aload_n 0, 1) := by decide +kernel
theorem dX9_ruined_1 : decode cX9_ruined 1 = .ok (.invokevirtual 207, 3) := by decide +kernel
theorem dX9_ruined_4 : decode cX9_ruined 4 = .ok (.iload_n 1, 1) := by decide +kernel
theorem dX9_ruined_5 : decode cX9_ruined 5 = .ok (.invokestatic 157, 3) := by decide +kernel
theorem dX9_ruined_8 : decode cX9_ruined 8 = .ok (.ifCond .eq 11, 3) := by decide +kernel
theorem dX9_ruined_11 : decode cX9_ruined 11 = .ok (.aload_n 0, 1) := by decide +kernel
theorem dX9_ruined_12 : decode cX9_ruined 12 = .ok (.iload_n 1, 1) := by decide +kernel
theorem dX9_ruined_13 : decode cX9_ruined 13 = .ok (.invokevirtual 230, 3) := by decide +kernel
theorem dX9_ruined_16 : decode cX9_ruined 16 = .ok (.goto 5, 3) := by decide +kernel
theorem dX9_ruined_19 : decode cX9_ruined 19 = .ok (.bipush (-2), 2) := by decide +kernel
theorem dX9_ruined_21 : decode cX9_ruined 21 = .ok (.ireturn, 1) := by decide +kernel
theorem dX9_worstOf_0 : decode cX9_worstOf 0 = .ok (.aload_n 0, 1) := by decide +kernel
theorem dX9_worstOf_1 : decode cX9_worstOf 1 = .ok (.iload_n 1, 1) := by decide +kernel
theorem dX9_worstOf_2 : decode cX9_worstOf 2 = .ok (.aload_n 0, 1) := by decide +kernel
theorem dX9_worstOf_3 : decode cX9_worstOf 3 = .ok (.getfield 52, 3) := by decide +kernel
theorem dX9_worstOf_6 : decode cX9_worstOf 6 = .ok (.bipush 6, 2) := by decide +kernel
theorem dX9_worstOf_8 : decode cX9_worstOf 8 = .ok (.iload_n 1, 1) := by decide +kernel
theorem dX9_worstOf_9 : decode cX9_worstOf 9 = .ok (.imul, 1) := by decide +kernel
theorem dX9_worstOf_10 : decode cX9_worstOf 10 = .ok (.iconst 4, 1) := by decide +kernel
theorem dX9_worstOf_11 : decode cX9_worstOf 11 = .ok (.iadd, 1) := by decide +kernel
theorem dX9_worstOf_12 : decode cX9_worstOf 12 = .ok (.iaload, 1) := by decide +kernel
theorem dX9_worstOf_13 : decode cX9_worstOf 13 = .ok (.invokevirtual 220, 3) := by decide +kernel
theorem dX9_worstOf_16 : decode cX9_worstOf 16 = .ok (.aload_n 0, 1) := by decide +kernel
theorem dX9_worstOf_17 : decode cX9_worstOf 17 = .ok (.iload_n 1, 1) := by decide +kernel
theorem dX9_worstOf_18 : decode cX9_worstOf 18 = .ok (.aload_n 0, 1) := by decide +kernel
theorem dX9_worstOf_19 : decode cX9_worstOf 19 = .ok (.getfield 52, 3) := by decide +kernel
theorem dX9_worstOf_22 : decode cX9_worstOf 22 = .ok (.bipush 6, 2) := by decide +kernel
theorem dX9_worstOf_24 : decode cX9_worstOf 24 = .ok (.iload_n 1, 1) := by decide +kernel
theorem dX9_worstOf_25 : decode cX9_worstOf 25 = .ok (.imul, 1) := by decide +kernel
theorem dX9_worstOf_26 : decode cX9_worstOf 26 = .ok (.iconst 5, 1) := by decide +kernel
theorem dX9_worstOf_27 : decode cX9_worstOf 27 = .ok (.iadd, 1) := by decide +kernel
theorem dX9_worstOf_28 : decode cX9_worstOf 28 = .ok (.iaload, 1) := by decide +kernel
theorem dX9_worstOf_29 : decode cX9_worstOf 29 = .ok (.invokevirtual 220, 3) := by decide +kernel
theorem dX9_worstOf_32 : decode cX9_worstOf 32 = .ok (.isub, 1) := by decide +kernel
theorem dX9_worstOf_33 : decode cX9_worstOf 33 = .ok (.invokestatic 233, 3) := by decide +kernel
theorem dX9_worstOf_36 : decode cX9_worstOf 36 = .ok (.ireturn, 1) := by decide +kernel
theorem dX9_worst_0 : decode cX9_worst 0 = .ok (.aload_n 0, 1) := by decide +kernel
theorem dX9_worst_1 : decode cX9_worst 1 = .ok (.invokevirtual 207, 3) := by decide +kernel
theorem dX9_worst_4 : decode cX9_worst 4 = .ok (.iload_n 1, 1) := by decide +kernel
theorem dX9_worst_5 : decode cX9_worst 5 = .ok (.i2l, 1) := by decide +kernel
theorem dX9_worst_6 : decode cX9_worst 6 = .ok (.lconst 0, 1) := by decide +kernel
theorem dX9_worst_7 : decode cX9_worst 7 = .ok (.aload_n 0, 1) := by decide +kernel
theorem dX9_worst_8 : decode cX9_worst 8 = .ok (.getfield 217, 3) := by decide +kernel
theorem dX9_worst_11 : decode cX9_worst 11 = .ok (.iconst 1, 1) := by decide +kernel
theorem dX9_worst_12 : decode cX9_worst 12 = .ok (.isub, 1) := by decide +kernel
theorem dX9_worst_13 : decode cX9_worst 13 = .ok (.i2l, 1) := by decide +kernel
theorem dX9_worst_14 : decode cX9_worst 14 = .ok (.invokestatic 88, 3) := by decide +kernel
theorem dX9_worst_17 : decode cX9_worst 17 = .ok (.ifCond .eq 11, 3) := by decide +kernel
theorem dX9_worst_20 : decode cX9_worst 20 = .ok (.aload_n 0, 1) := by decide +kernel
theorem dX9_worst_21 : decode cX9_worst 21 = .ok (.iload_n 1, 1) := by decide +kernel
theorem dX9_worst_22 : decode cX9_worst 22 = .ok (.invokevirtual 236, 3) := by decide +kernel
theorem dX9_worst_25 : decode cX9_worst 25 = .ok (.goto 5, 3) := by decide +kernel
theorem dX9_worst_28 : decode cX9_worst 28 = .ok (.bipush (-2), 2) := by decide +kernel
theorem dX9_worst_30 : decode cX9_worst 30 = .ok (.ireturn, 1) := by decide +kernel
theorem dX9_mostTold_0 : decode cX9_mostTold 0 = .ok (.iconst 0, 1) := by decide +kernel
theorem dX9_mostTold_1 : decode cX9_mostTold 1 = .ok (.istore_n 1, 1) := by decide +kernel
theorem dX9_mostTold_2 : decode cX9_mostTold 2 = .ok (.iload_n 1, 1) := by decide +kernel
theorem dX9_mostTold_3 : decode cX9_mostTold 3 = .ok (.iconst 4, 1) := by decide +kernel
theorem dX9_mostTold_4 : decode cX9_mostTold 4 = .ok (.if_icmp .ge 16, 3) := by decide +kernel
theorem dX9_mostTold_7 : decode cX9_mostTold 7 = .ok (.aload_n 0, 1) := by decide +kernel
theorem dX9_mostTold_8 : decode cX9_mostTold 8 = .ok (.getfield 58, 3) := by decide +kernel
theorem dX9_mostTold_11 : decode cX9_mostTold 11 = .ok (.iload_n 1, 1) := by decide +kernel
theorem dX9_mostTold_12 : decode cX9_mostTold 12 = .ok (.iconst 0, 1) := by decide +kernel
theorem dX9_mostTold_13 : decode cX9_mostTold 13 = .ok (.iastore, 1) := by decide +kernel
theorem dX9_mostTold_14 : decode cX9_mostTold 14 = .ok (.iinc 1 1, 3) := by decide +kernel
theorem dX9_mostTold_17 : decode cX9_mostTold 17 = .ok (.goto (-15), 3) := by decide +kernel
theorem dX9_mostTold_20 : decode cX9_mostTold 20 = .ok (.iconst 0, 1) := by decide +kernel
theorem dX9_mostTold_21 : decode cX9_mostTold 21 = .ok (.istore_n 1, 1) := by decide +kernel
theorem dX9_mostTold_22 : decode cX9_mostTold 22 = .ok (.iload_n 1, 1) := by decide +kernel
theorem dX9_mostTold_23 : decode cX9_mostTold 23 = .ok (.aload_n 0, 1) := by decide +kernel
theorem dX9_mostTold_24 : decode cX9_mostTold 24 = .ok (.getfield 28, 3) := by decide +kernel
theorem dX9_mostTold_27 : decode cX9_mostTold 27 = .ok (.iconst 1, 1) := by decide +kernel
theorem dX9_mostTold_28 : decode cX9_mostTold 28 = .ok (.iaload, 1) := by decide +kernel
theorem dX9_mostTold_29 : decode cX9_mostTold 29 = .ok (.if_icmp .ge 24, 3) := by decide +kernel
theorem dX9_mostTold_32 : decode cX9_mostTold 32 = .ok (.aload_n 0, 1) := by decide +kernel
theorem dX9_mostTold_33 : decode cX9_mostTold 33 = .ok (.getfield 58, 3) := by decide +kernel
theorem dX9_mostTold_36 : decode cX9_mostTold 36 = .ok (.aload_n 0, 1) := by decide +kernel
theorem dX9_mostTold_37 : decode cX9_mostTold 37 = .ok (.getfield 61, 3) := by decide +kernel
theorem dX9_mostTold_40 : decode cX9_mostTold 40 = .ok (.iload_n 1, 1) := by decide +kernel
theorem dX9_mostTold_41 : decode cX9_mostTold 41 = .ok (.iaload, 1) := by decide +kernel
theorem dX9_mostTold_42 : decode cX9_mostTold 42 = .ok (.dup2, 1) := by decide +kernel
theorem dX9_mostTold_43 : decode cX9_mostTold 43 = .ok (.iaload, 1) := by decide +kernel
theorem dX9_mostTold_44 : decode cX9_mostTold 44 = .ok (.iconst 1, 1) := by decide +kernel
theorem dX9_mostTold_45 : decode cX9_mostTold 45 = .ok (.iadd, 1) := by decide +kernel
theorem dX9_mostTold_46 : decode cX9_mostTold 46 = .ok (.iastore, 1) := by decide +kernel
theorem dX9_mostTold_47 : decode cX9_mostTold 47 = .ok (.iinc 1 1, 3) := by decide +kernel
theorem dX9_mostTold_50 : decode cX9_mostTold 50 = .ok (.goto (-28), 3) := by decide +kernel
theorem dX9_mostTold_53 : decode cX9_mostTold 53 = .ok (.iconst 0, 1) := by decide +kernel
theorem dX9_mostTold_54 : decode cX9_mostTold 54 = .ok (.istore_n 1, 1) := by decide +kernel
theorem dX9_mostTold_55 : decode cX9_mostTold 55 = .ok (.iconst 1, 1) := by decide +kernel
theorem dX9_mostTold_56 : decode cX9_mostTold 56 = .ok (.istore_n 2, 1) := by decide +kernel
theorem dX9_mostTold_57 : decode cX9_mostTold 57 = .ok (.iload_n 2, 1) := by decide +kernel
theorem dX9_mostTold_58 : decode cX9_mostTold 58 = .ok (.aload_n 0, 1) := by decide +kernel
theorem dX9_mostTold_59 : decode cX9_mostTold 59 = .ok (.getfield 28, 3) := by decide +kernel
theorem dX9_mostTold_62 : decode cX9_mostTold 62 = .ok (.iconst 0, 1) := by decide +kernel
theorem dX9_mostTold_63 : decode cX9_mostTold 63 = .ok (.iaload, 1) := by decide +kernel
theorem dX9_mostTold_64 : decode cX9_mostTold 64 = .ok (.if_icmp .ge 30, 3) := by decide +kernel
theorem dX9_mostTold_67 : decode cX9_mostTold 67 = .ok (.aload_n 0, 1) := by decide +kernel
theorem dX9_mostTold_68 : decode cX9_mostTold 68 = .ok (.getfield 58, 3) := by decide +kernel
theorem dX9_mostTold_71 : decode cX9_mostTold 71 = .ok (.iload_n 2, 1) := by decide +kernel
theorem dX9_mostTold_72 : decode cX9_mostTold 72 = .ok (.iaload, 1) := by decide +kernel
theorem dX9_mostTold_73 : decode cX9_mostTold 73 = .ok (.aload_n 0, 1) := by decide +kernel
theorem dX9_mostTold_74 : decode cX9_mostTold 74 = .ok (.getfield 58, 3) := by decide +kernel
theorem dX9_mostTold_77 : decode cX9_mostTold 77 = .ok (.iload_n 1, 1) := by decide +kernel
theorem dX9_mostTold_78 : decode cX9_mostTold 78 = .ok (.iaload, 1) := by decide +kernel
theorem dX9_mostTold_79 : decode cX9_mostTold 79 = .ok (.if_icmp .le 7, 3) := by decide +kernel
theorem dX9_mostTold_82 : decode cX9_mostTold 82 = .ok (.iload_n 2, 1) := by decide +kernel
theorem dX9_mostTold_83 : decode cX9_mostTold 83 = .ok (.goto 4, 3) := by decide +kernel
theorem dX9_mostTold_86 : decode cX9_mostTold 86 = .ok (.iload_n 1, 1) := by decide +kernel
theorem dX9_mostTold_87 : decode cX9_mostTold 87 = .ok (.istore_n 1, 1) := by decide +kernel
theorem dX9_mostTold_88 : decode cX9_mostTold 88 = .ok (.iinc 2 1, 3) := by decide +kernel
theorem dX9_mostTold_91 : decode cX9_mostTold 91 = .ok (.goto (-34), 3) := by decide +kernel
theorem dX9_mostTold_94 : decode cX9_mostTold 94 = .ok (.iload_n 1, 1) := by decide +kernel
theorem dX9_mostTold_95 : decode cX9_mostTold 95 = .ok (.ireturn, 1) := by decide +kernel
theorem dX9_six_0 : decode cX9_six 0 = .ok (.aload_n 0, 1) := by decide +kernel
theorem dX9_six_1 : decode cX9_six 1 = .ok (.getfield 28, 3) := by decide +kernel
theorem dX9_six_4 : decode cX9_six 4 = .ok (.iconst 1, 1) := by decide +kernel
theorem dX9_six_5 : decode cX9_six 5 = .ok (.iaload, 1) := by decide +kernel
theorem dX9_six_6 : decode cX9_six 6 = .ok (.bipush 6, 2) := by decide +kernel
theorem dX9_six_8 : decode cX9_six 8 = .ok (.if_icmp .ge 12, 3) := by decide +kernel
theorem dX9_six_11 : decode cX9_six 11 = .ok (.aload_n 0, 1) := by decide +kernel
theorem dX9_six_12 : decode cX9_six 12 = .ok (.getfield 28, 3) := by decide +kernel
theorem dX9_six_15 : decode cX9_six 15 = .ok (.iconst 1, 1) := by decide +kernel
theorem dX9_six_16 : decode cX9_six 16 = .ok (.iaload, 1) := by decide +kernel
theorem dX9_six_17 : decode cX9_six 17 = .ok (.goto 5, 3) := by decide +kernel
theorem dX9_six_20 : decode cX9_six 20 = .ok (.bipush 6, 2) := by decide +kernel
theorem dX9_six_22 : decode cX9_six 22 = .ok (.ireturn, 1) := by decide +kernel
theorem dX9_isRest_0 : decode cX9_isRest 0 = .ok (.aload_n 0, 1) := by decide +kernel
theorem dX9_isRest_1 : decode cX9_isRest 1 = .ok (.invokevirtual 239, 3) := by decide +kernel
theorem dX9_isRest_4 : decode cX9_isRest 4 = .ok (.istore_n 1, 1) := by decide +kernel
theorem dX9_isRest_5 : decode cX9_isRest 5 = .ok (.iconst 1, 1) := by decide +kernel
theorem dX9_isRest_6 : decode cX9_isRest 6 = .ok (.istore_n 2, 1) := by decide +kernel
theorem dX9_isRest_7 : decode cX9_isRest 7 = .ok (.iconst 0, 1) := by decide +kernel
theorem dX9_isRest_8 : decode cX9_isRest 8 = .ok (.istore_n 3, 1) := by decide +kernel
theorem dX9_isRest_9 : decode cX9_isRest 9 = .ok (.iload_n 3, 1) := by decide +kernel
theorem dX9_isRest_10 : decode cX9_isRest 10 = .ok (.aload_n 0, 1) := by decide +kernel
theorem dX9_isRest_11 : decode cX9_isRest 11 = .ok (.invokevirtual 242, 3) := by decide +kernel
theorem dX9_isRest_14 : decode cX9_isRest 14 = .ok (.if_icmp .ge 83, 3) := by decide +kernel
theorem dX9_isRest_17 : decode cX9_isRest 17 = .ok (.aload_n 0, 1) := by decide +kernel
theorem dX9_isRest_18 : decode cX9_isRest 18 = .ok (.getfield 61, 3) := by decide +kernel
theorem dX9_isRest_21 : decode cX9_isRest 21 = .ok (.iload_n 3, 1) := by decide +kernel
theorem dX9_isRest_22 : decode cX9_isRest 22 = .ok (.iaload, 1) := by decide +kernel
theorem dX9_isRest_23 : decode cX9_isRest 23 = .ok (.istore 4, 2) := by decide +kernel
theorem dX9_isRest_25 : decode cX9_isRest 25 = .ok (.iconst 0, 1) := by decide +kernel
theorem dX9_isRest_26 : decode cX9_isRest 26 = .ok (.istore 5, 2) := by decide +kernel
theorem dX9_isRest_28 : decode cX9_isRest 28 = .ok (.iload 5, 2) := by decide +kernel
theorem dX9_isRest_30 : decode cX9_isRest 30 = .ok (.aload_n 0, 1) := by decide +kernel
theorem dX9_isRest_31 : decode cX9_isRest 31 = .ok (.getfield 28, 3) := by decide +kernel
theorem dX9_isRest_34 : decode cX9_isRest 34 = .ok (.iconst 0, 1) := by decide +kernel
theorem dX9_isRest_35 : decode cX9_isRest 35 = .ok (.iaload, 1) := by decide +kernel
theorem dX9_isRest_36 : decode cX9_isRest 36 = .ok (.if_icmp .ge 47, 3) := by decide +kernel
theorem dX9_isRest_39 : decode cX9_isRest 39 = .ok (.aload_n 0, 1) := by decide +kernel
theorem dX9_isRest_40 : decode cX9_isRest 40 = .ok (.getfield 61, 3) := by decide +kernel
theorem dX9_isRest_43 : decode cX9_isRest 43 = .ok (.iload_n 3, 1) := by decide +kernel
theorem dX9_isRest_44 : decode cX9_isRest 44 = .ok (.iload 5, 2) := by decide +kernel
theorem dX9_isRest_46 : decode cX9_isRest 46 = .ok (.iastore, 1) := by decide +kernel
theorem dX9_isRest_47 : decode cX9_isRest 47 = .ok (.iload_n 2, 1) := by decide +kernel
theorem dX9_isRest_48 : decode cX9_isRest 48 = .ok (.ifCond .eq 27, 3) := by decide +kernel
theorem dX9_isRest_51 : decode cX9_isRest 51 = .ok (.aload_n 0, 1) := by decide +kernel
theorem dX9_isRest_52 : decode cX9_isRest 52 = .ok (.iconst 0, 1) := by decide +kernel
theorem dX9_isRest_53 : decode cX9_isRest 53 = .ok (.aload_n 0, 1) := by decide +kernel
theorem dX9_isRest_54 : decode cX9_isRest 54 = .ok (.invokevirtual 239, 3) := by decide +kernel
theorem dX9_isRest_57 : decode cX9_isRest 57 = .ok (.iload_n 3, 1) := by decide +kernel
theorem dX9_isRest_58 : decode cX9_isRest 58 = .ok (.invokevirtual 186, 3) := by decide +kernel
theorem dX9_isRest_61 : decode cX9_isRest 61 = .ok (.aload_n 0, 1) := by decide +kernel
theorem dX9_isRest_62 : decode cX9_isRest 62 = .ok (.iconst 0, 1) := by decide +kernel
theorem dX9_isRest_63 : decode cX9_isRest 63 = .ok (.iload_n 1, 1) := by decide +kernel
theorem dX9_isRest_64 : decode cX9_isRest 64 = .ok (.iload_n 3, 1) := by decide +kernel
theorem dX9_isRest_65 : decode cX9_isRest 65 = .ok (.invokevirtual 186, 3) := by decide +kernel
theorem dX9_isRest_68 : decode cX9_isRest 68 = .ok (.if_icmp .gt 7, 3) := by decide +kernel
theorem dX9_isRest_71 : decode cX9_isRest 71 = .ok (.iconst 1, 1) := by decide +kernel
theorem dX9_isRest_72 : decode cX9_isRest 72 = .ok (.goto 4, 3) := by decide +kernel
theorem dX9_isRest_75 : decode cX9_isRest 75 = .ok (.iconst 0, 1) := by decide +kernel
theorem dX9_isRest_76 : decode cX9_isRest 76 = .ok (.istore_n 2, 1) := by decide +kernel
theorem dX9_isRest_77 : decode cX9_isRest 77 = .ok (.iinc 5 1, 3) := by decide +kernel
theorem dX9_isRest_80 : decode cX9_isRest 80 = .ok (.goto (-52), 3) := by decide +kernel
theorem dX9_isRest_83 : decode cX9_isRest 83 = .ok (.aload_n 0, 1) := by decide +kernel
theorem dX9_isRest_84 : decode cX9_isRest 84 = .ok (.getfield 61, 3) := by decide +kernel
theorem dX9_isRest_87 : decode cX9_isRest 87 = .ok (.iload_n 3, 1) := by decide +kernel
theorem dX9_isRest_88 : decode cX9_isRest 88 = .ok (.iload 4, 2) := by decide +kernel
theorem dX9_isRest_90 : decode cX9_isRest 90 = .ok (.iastore, 1) := by decide +kernel
theorem dX9_isRest_91 : decode cX9_isRest 91 = .ok (.iinc 3 1, 3) := by decide +kernel
theorem dX9_isRest_94 : decode cX9_isRest 94 = .ok (.goto (-85), 3) := by decide +kernel
theorem dX9_isRest_97 : decode cX9_isRest 97 = .ok (.iload_n 2, 1) := by decide +kernel
theorem dX9_isRest_98 : decode cX9_isRest 98 = .ok (.ireturn, 1) := by decide +kernel
theorem dX9_chooses_0 : decode cX9_chooses 0 = .ok (.iconst 0, 1) := by decide +kernel
theorem dX9_chooses_1 : decode cX9_chooses 1 = .ok (.istore_n 1, 1) := by decide +kernel
theorem dX9_chooses_2 : decode cX9_chooses 2 = .ok (.iload_n 1, 1) := by decide +kernel
theorem dX9_chooses_3 : decode cX9_chooses 3 = .ok (.aload_n 0, 1) := by decide +kernel
theorem dX9_chooses_4 : decode cX9_chooses 4 = .ok (.getfield 28, 3) := by decide +kernel
theorem dX9_chooses_7 : decode cX9_chooses 7 = .ok (.iconst 1, 1) := by decide +kernel
theorem dX9_chooses_8 : decode cX9_chooses 8 = .ok (.iaload, 1) := by decide +kernel
theorem dX9_chooses_9 : decode cX9_chooses 9 = .ok (.if_icmp .ge 22, 3) := by decide +kernel
theorem dX9_chooses_12 : decode cX9_chooses 12 = .ok (.aload_n 0, 1) := by decide +kernel
theorem dX9_chooses_13 : decode cX9_chooses 13 = .ok (.getfield 61, 3) := by decide +kernel
theorem dX9_chooses_16 : decode cX9_chooses 16 = .ok (.iload_n 1, 1) := by decide +kernel
theorem dX9_chooses_17 : decode cX9_chooses 17 = .ok (.aload_n 0, 1) := by decide +kernel
theorem dX9_chooses_18 : decode cX9_chooses 18 = .ok (.iconst 0, 1) := by decide +kernel
theorem dX9_chooses_19 : decode cX9_chooses 19 = .ok (.iload_n 1, 1) := by decide +kernel
theorem dX9_chooses_20 : decode cX9_chooses 20 = .ok (.iconst (-1), 1) := by decide +kernel
theorem dX9_chooses_21 : decode cX9_chooses 21 = .ok (.invokevirtual 193, 3) := by decide +kernel
theorem dX9_chooses_24 : decode cX9_chooses 24 = .ok (.iastore, 1) := by decide +kernel
theorem dX9_chooses_25 : decode cX9_chooses 25 = .ok (.iinc 1 1, 3) := by decide +kernel
theorem dX9_chooses_28 : decode cX9_chooses 28 = .ok (.goto (-26), 3) := by decide +kernel
theorem dX9_chooses_31 : decode cX9_chooses 31 = .ok (.return_, 1) := by decide +kernel
theorem dX9_isRow_0 : decode cX9_isRow 0 = .ok (.iconst 1, 1) := by decide +kernel
theorem dX9_isRow_1 : decode cX9_isRow 1 = .ok (.istore_n 2, 1) := by decide +kernel
theorem dX9_isRow_2 : decode cX9_isRow 2 = .ok (.iconst 0, 1) := by decide +kernel
theorem dX9_isRow_3 : decode cX9_isRow 3 = .ok (.istore_n 3, 1) := by decide +kernel
theorem dX9_isRow_4 : decode cX9_isRow 4 = .ok (.iload_n 3, 1) := by decide +kernel
theorem dX9_isRow_5 : decode cX9_isRow 5 = .ok (.aload_n 0, 1) := by decide +kernel
theorem dX9_isRow_6 : decode cX9_isRow 6 = .ok (.invokevirtual 242, 3) := by decide +kernel
theorem dX9_isRow_9 : decode cX9_isRow 9 = .ok (.if_icmp .ge 47, 3) := by decide +kernel
theorem dX9_isRow_12 : decode cX9_isRow 12 = .ok (.aload_n 0, 1) := by decide +kernel
theorem dX9_isRow_13 : decode cX9_isRow 13 = .ok (.getfield 61, 3) := by decide +kernel
theorem dX9_isRow_16 : decode cX9_isRow 16 = .ok (.iload_n 3, 1) := by decide +kernel
theorem dX9_isRow_17 : decode cX9_isRow 17 = .ok (.iload_n 1, 1) := by decide +kernel
theorem dX9_isRow_18 : decode cX9_isRow 18 = .ok (.iconst 2, 1) := by decide +kernel
theorem dX9_isRow_19 : decode cX9_isRow 19 = .ok (.iload_n 3, 1) := by decide +kernel
theorem dX9_isRow_20 : decode cX9_isRow 20 = .ok (.imul, 1) := by decide +kernel
theorem dX9_isRow_21 : decode cX9_isRow 21 = .ok (.ishr, 1) := by decide +kernel
theorem dX9_isRow_22 : decode cX9_isRow 22 = .ok (.iconst 3, 1) := by decide +kernel
theorem dX9_isRow_23 : decode cX9_isRow 23 = .ok (.iand, 1) := by decide +kernel
theorem dX9_isRow_24 : decode cX9_isRow 24 = .ok (.iastore, 1) := by decide +kernel
theorem dX9_isRow_25 : decode cX9_isRow 25 = .ok (.iload_n 2, 1) := by decide +kernel
theorem dX9_isRow_26 : decode cX9_isRow 26 = .ok (.ifCond .eq 22, 3) := by decide +kernel
theorem dX9_isRow_29 : decode cX9_isRow 29 = .ok (.aload_n 0, 1) := by decide +kernel
theorem dX9_isRow_30 : decode cX9_isRow 30 = .ok (.getfield 61, 3) := by decide +kernel
theorem dX9_isRow_33 : decode cX9_isRow 33 = .ok (.iload_n 3, 1) := by decide +kernel
theorem dX9_isRow_34 : decode cX9_isRow 34 = .ok (.iaload, 1) := by decide +kernel
theorem dX9_isRow_35 : decode cX9_isRow 35 = .ok (.aload_n 0, 1) := by decide +kernel
theorem dX9_isRow_36 : decode cX9_isRow 36 = .ok (.getfield 28, 3) := by decide +kernel
theorem dX9_isRow_39 : decode cX9_isRow 39 = .ok (.iconst 0, 1) := by decide +kernel
theorem dX9_isRow_40 : decode cX9_isRow 40 = .ok (.iaload, 1) := by decide +kernel
theorem dX9_isRow_41 : decode cX9_isRow 41 = .ok (.if_icmp .ge 7, 3) := by decide +kernel
theorem dX9_isRow_44 : decode cX9_isRow 44 = .ok (.iconst 1, 1) := by decide +kernel
theorem dX9_isRow_45 : decode cX9_isRow 45 = .ok (.goto 4, 3) := by decide +kernel
theorem dX9_isRow_48 : decode cX9_isRow 48 = .ok (.iconst 0, 1) := by decide +kernel
theorem dX9_isRow_49 : decode cX9_isRow 49 = .ok (.istore_n 2, 1) := by decide +kernel
theorem dX9_isRow_50 : decode cX9_isRow 50 = .ok (.iinc 3 1, 3) := by decide +kernel
theorem dX9_isRow_53 : decode cX9_isRow 53 = .ok (.goto (-49), 3) := by decide +kernel
theorem dX9_isRow_56 : decode cX9_isRow 56 = .ok (.iload_n 2, 1) := by decide +kernel
theorem dX9_isRow_57 : decode cX9_isRow 57 = .ok (.ireturn, 1) := by decide +kernel
theorem dX9_restOf_0 : decode cX9_restOf 0 = .ok (.aload_n 0, 1) := by decide +kernel
theorem dX9_restOf_1 : decode cX9_restOf 1 = .ok (.getfield 28, 3) := by decide +kernel
theorem dX9_restOf_4 : decode cX9_restOf 4 = .ok (.iconst 0, 1) := by decide +kernel
theorem dX9_restOf_5 : decode cX9_restOf 5 = .ok (.iaload, 1) := by decide +kernel
theorem dX9_restOf_6 : decode cX9_restOf 6 = .ok (.ifCond .ne 6, 3) := by decide +kernel
theorem dX9_restOf_9 : decode cX9_restOf 9 = .ok (.bipush (-3), 2) := by decide +kernel
theorem dX9_restOf_11 : decode cX9_restOf 11 = .ok (.ireturn, 1) := by decide +kernel
theorem dX9_restOf_12 : decode cX9_restOf 12 = .ok (.aload_n 0, 1) := by decide +kernel
theorem dX9_restOf_13 : decode cX9_restOf 13 = .ok (.invokevirtual 245, 3) := by decide +kernel
theorem dX9_restOf_16 : decode cX9_restOf 16 = .ok (.aload_n 0, 1) := by decide +kernel
theorem dX9_restOf_17 : decode cX9_restOf 17 = .ok (.iload_n 1, 1) := by decide +kernel
theorem dX9_restOf_18 : decode cX9_restOf 18 = .ok (.invokevirtual 248, 3) := by decide +kernel
theorem dX9_restOf_21 : decode cX9_restOf 21 = .ok (.ifCond .ne 8, 3) := by decide +kernel
theorem dX9_restOf_24 : decode cX9_restOf 24 = .ok (.bipush (-2), 2) := by decide +kernel
theorem dX9_restOf_26 : decode cX9_restOf 26 = .ok (.goto 15, 3) := by decide +kernel
theorem dX9_restOf_29 : decode cX9_restOf 29 = .ok (.aload_n 0, 1) := by decide +kernel
theorem dX9_restOf_30 : decode cX9_restOf 30 = .ok (.invokevirtual 251, 3) := by decide +kernel
theorem dX9_restOf_33 : decode cX9_restOf 33 = .ok (.ifCond .eq 7, 3) := by decide +kernel
theorem dX9_restOf_36 : decode cX9_restOf 36 = .ok (.iconst 1, 1) := by decide +kernel
theorem dX9_restOf_37 : decode cX9_restOf 37 = .ok (.goto 4, 3) := by decide +kernel
theorem dX9_restOf_40 : decode cX9_restOf 40 = .ok (.iconst 0, 1) := by decide +kernel
theorem dX9_restOf_41 : decode cX9_restOf 41 = .ok (.ireturn, 1) := by decide +kernel
theorem dX9_rest_0 : decode cX9_rest 0 = .ok (.aload_n 0, 1) := by decide +kernel
theorem dX9_rest_1 : decode cX9_rest 1 = .ok (.invokevirtual 151, 3) := by decide +kernel
theorem dX9_rest_4 : decode cX9_rest 4 = .ok (.iload_n 1, 1) := by decide +kernel
theorem dX9_rest_5 : decode cX9_rest 5 = .ok (.i2l, 1) := by decide +kernel
theorem dX9_rest_6 : decode cX9_rest 6 = .ok (.lconst 0, 1) := by decide +kernel
theorem dX9_rest_7 : decode cX9_rest 7 = .ok (.ldc2_w 255, 3) := by decide +kernel
theorem dX9_rest_10 : decode cX9_rest 10 = .ok (.invokestatic 88, 3) := by decide +kernel
theorem dX9_rest_13 : decode cX9_rest 13 = .ok (.ifCond .eq 11, 3) := by decide +kernel
theorem dX9_rest_16 : decode cX9_rest 16 = .ok (.aload_n 0, 1) := by decide +kernel
theorem dX9_rest_17 : decode cX9_rest 17 = .ok (.iload_n 1, 1) := by decide +kernel
theorem dX9_rest_18 : decode cX9_rest 18 = .ok (.invokevirtual 257, 3) := by decide +kernel
theorem dX9_rest_21 : decode cX9_rest 21 = .ok (.goto 5, 3) := by decide +kernel
theorem dX9_rest_24 : decode cX9_rest 24 = .ok (.bipush (-2), 2) := by decide +kernel
theorem dX9_rest_26 : decode cX9_rest 26 = .ok (.ireturn, 1) := by decide +kernel
theorem dX9_restsNow_0 : decode cX9_restsNow 0 = .ok (.iconst 0, 1) := by decide +kernel
theorem dX9_restsNow_1 : decode cX9_restsNow 1 = .ok (.istore_n 1, 1) := by decide +kernel
theorem dX9_restsNow_2 : decode cX9_restsNow 2 = .ok (.iconst 0, 1) := by decide +kernel
theorem dX9_restsNow_3 : decode cX9_restsNow 3 = .ok (.istore_n 2, 1) := by decide +kernel
theorem dX9_restsNow_4 : decode cX9_restsNow 4 = .ok (.iload_n 2, 1) := by decide +kernel
theorem dX9_restsNow_5 : decode cX9_restsNow 5 = .ok (.iconst 1, 1) := by decide +kernel
theorem dX9_restsNow_6 : decode cX9_restsNow 6 = .ok (.iconst 2, 1) := by decide +kernel
theorem dX9_restsNow_7 : decode cX9_restsNow 7 = .ok (.aload_n 0, 1) := by decide +kernel
theorem dX9_restsNow_8 : decode cX9_restsNow 8 = .ok (.invokevirtual 242, 3) := by decide +kernel
theorem dX9_restsNow_11 : decode cX9_restsNow 11 = .ok (.imul, 1) := by decide +kernel
theorem dX9_restsNow_12 : decode cX9_restsNow 12 = .ok (.ishl, 1) := by decide +kernel
theorem dX9_restsNow_13 : decode cX9_restsNow 13 = .ok (.if_icmp .ge 35, 3) := by decide +kernel
theorem dX9_restsNow_16 : decode cX9_restsNow 16 = .ok (.aload_n 0, 1) := by decide +kernel
theorem dX9_restsNow_17 : decode cX9_restsNow 17 = .ok (.getfield 28, 3) := by decide +kernel
theorem dX9_restsNow_20 : decode cX9_restsNow 20 = .ok (.iconst 0, 1) := by decide +kernel
theorem dX9_restsNow_21 : decode cX9_restsNow 21 = .ok (.iaload, 1) := by decide +kernel
theorem dX9_restsNow_22 : decode cX9_restsNow 22 = .ok (.ifCond .le 26, 3) := by decide +kernel
theorem dX9_restsNow_25 : decode cX9_restsNow 25 = .ok (.iload_n 1, 1) := by decide +kernel
theorem dX9_restsNow_26 : decode cX9_restsNow 26 = .ok (.aload_n 0, 1) := by decide +kernel
theorem dX9_restsNow_27 : decode cX9_restsNow 27 = .ok (.iload_n 2, 1) := by decide +kernel
theorem dX9_restsNow_28 : decode cX9_restsNow 28 = .ok (.invokevirtual 257, 3) := by decide +kernel
theorem dX9_restsNow_31 : decode cX9_restsNow 31 = .ok (.iconst 1, 1) := by decide +kernel
theorem dX9_restsNow_32 : decode cX9_restsNow 32 = .ok (.if_icmp .ne 7, 3) := by decide +kernel
theorem dX9_restsNow_35 : decode cX9_restsNow 35 = .ok (.iconst 1, 1) := by decide +kernel
theorem dX9_restsNow_36 : decode cX9_restsNow 36 = .ok (.goto 4, 3) := by decide +kernel
theorem dX9_restsNow_39 : decode cX9_restsNow 39 = .ok (.iconst 0, 1) := by decide +kernel
theorem dX9_restsNow_40 : decode cX9_restsNow 40 = .ok (.iadd, 1) := by decide +kernel
theorem dX9_restsNow_41 : decode cX9_restsNow 41 = .ok (.istore_n 1, 1) := by decide +kernel
theorem dX9_restsNow_42 : decode cX9_restsNow 42 = .ok (.iinc 2 1, 3) := by decide +kernel
theorem dX9_restsNow_45 : decode cX9_restsNow 45 = .ok (.goto (-41), 3) := by decide +kernel
theorem dX9_restsNow_48 : decode cX9_restsNow 48 = .ok (.iload_n 1, 1) := by decide +kernel
theorem dX9_restsNow_49 : decode cX9_restsNow 49 = .ok (.ireturn, 1) := by decide +kernel
theorem dX9_rests_0 : decode cX9_rests 0 = .ok (.aload_n 0, 1) := by decide +kernel
theorem dX9_rests_1 : decode cX9_rests 1 = .ok (.invokevirtual 151, 3) := by decide +kernel
theorem dX9_rests_4 : decode cX9_rests 4 = .ok (.aload_n 0, 1) := by decide +kernel
theorem dX9_rests_5 : decode cX9_rests 5 = .ok (.invokevirtual 260, 3) := by decide +kernel
theorem dX9_rests_8 : decode cX9_rests 8 = .ok (.ireturn, 1) := by decide +kernel
theorem dX9_gainBy_0 : decode cX9_gainBy 0 = .ok (.aload_n 0, 1) := by decide +kernel
theorem dX9_gainBy_1 : decode cX9_gainBy 1 = .ok (.iload 4, 2) := by decide +kernel
theorem dX9_gainBy_3 : decode cX9_gainBy 3 = .ok (.invokevirtual 183, 3) := by decide +kernel
theorem dX9_gainBy_6 : decode cX9_gainBy 6 = .ok (.istore 5, 2) := by decide +kernel
theorem dX9_gainBy_8 : decode cX9_gainBy 8 = .ok (.iload 5, 2) := by decide +kernel
theorem dX9_gainBy_10 : decode cX9_gainBy 10 = .ok (.ifCond .ne 10, 3) := by decide +kernel
theorem dX9_gainBy_13 : decode cX9_gainBy 13 = .ok (.iload_n 2, 1) := by decide +kernel
theorem dX9_gainBy_14 : decode cX9_gainBy 14 = .ok (.bipush 100, 2) := by decide +kernel
theorem dX9_gainBy_16 : decode cX9_gainBy 16 = .ok (.idiv, 1) := by decide +kernel
theorem dX9_gainBy_17 : decode cX9_gainBy 17 = .ok (.goto 23, 3) := by decide +kernel
theorem dX9_gainBy_20 : decode cX9_gainBy 20 = .ok (.iload 5, 2) := by decide +kernel
theorem dX9_gainBy_22 : decode cX9_gainBy 22 = .ok (.iconst 1, 1) := by decide +kernel
theorem dX9_gainBy_23 : decode cX9_gainBy 23 = .ok (.if_icmp .ne 13, 3) := by decide +kernel
theorem dX9_gainBy_26 : decode cX9_gainBy 26 = .ok (.iload_n 2, 1) := by decide +kernel
theorem dX9_gainBy_27 : decode cX9_gainBy 27 = .ok (.bipush 10, 2) := by decide +kernel
theorem dX9_gainBy_29 : decode cX9_gainBy 29 = .ok (.idiv, 1) := by decide +kernel
theorem dX9_gainBy_30 : decode cX9_gainBy 30 = .ok (.bipush 10, 2) := by decide +kernel
theorem dX9_gainBy_32 : decode cX9_gainBy 32 = .ok (.irem, 1) := by decide +kernel
theorem dX9_gainBy_33 : decode cX9_gainBy 33 = .ok (.goto 7, 3) := by decide +kernel
theorem dX9_gainBy_36 : decode cX9_gainBy 36 = .ok (.iload_n 2, 1) := by decide +kernel
theorem dX9_gainBy_37 : decode cX9_gainBy 37 = .ok (.bipush 10, 2) := by decide +kernel
theorem dX9_gainBy_39 : decode cX9_gainBy 39 = .ok (.irem, 1) := by decide +kernel
theorem dX9_gainBy_40 : decode cX9_gainBy 40 = .ok (.istore 6, 2) := by decide +kernel
theorem dX9_gainBy_42 : decode cX9_gainBy 42 = .ok (.iload_n 3, 1) := by decide +kernel
theorem dX9_gainBy_43 : decode cX9_gainBy 43 = .ok (.iload_n 1, 1) := by decide +kernel
theorem dX9_gainBy_44 : decode cX9_gainBy 44 = .ok (.if_icmp .ne 15, 3) := by decide +kernel
theorem dX9_gainBy_47 : decode cX9_gainBy 47 = .ok (.aload_n 0, 1) := by decide +kernel
theorem dX9_gainBy_48 : decode cX9_gainBy 48 = .ok (.iload 4, 2) := by decide +kernel
theorem dX9_gainBy_50 : decode cX9_gainBy 50 = .ok (.invokevirtual 180, 3) := by decide +kernel
theorem dX9_gainBy_53 : decode cX9_gainBy 53 = .ok (.iload 6, 2) := by decide +kernel
theorem dX9_gainBy_55 : decode cX9_gainBy 55 = .ok (.imul, 1) := by decide +kernel
theorem dX9_gainBy_56 : decode cX9_gainBy 56 = .ok (.goto 11, 3) := by decide +kernel
theorem dX9_gainBy_59 : decode cX9_gainBy 59 = .ok (.aload_n 0, 1) := by decide +kernel
theorem dX9_gainBy_60 : decode cX9_gainBy 60 = .ok (.iconst 0, 1) := by decide +kernel
theorem dX9_gainBy_61 : decode cX9_gainBy 61 = .ok (.iload_n 3, 1) := by decide +kernel
theorem dX9_gainBy_62 : decode cX9_gainBy 62 = .ok (.iload 4, 2) := by decide +kernel
theorem dX9_gainBy_64 : decode cX9_gainBy 64 = .ok (.invokevirtual 186, 3) := by decide +kernel
theorem dX9_gainBy_67 : decode cX9_gainBy 67 = .ok (.ireturn, 1) := by decide +kernel
theorem dX9_isElectedBy_0 : decode cX9_isElectedBy 0 = .ok (.iconst 0, 1) := by decide +kernel
theorem dX9_isElectedBy_1 : decode cX9_isElectedBy 1 = .ok (.istore_n 3, 1) := by decide +kernel
theorem dX9_isElectedBy_2 : decode cX9_isElectedBy 2 = .ok (.iload_n 3, 1) := by decide +kernel
theorem dX9_isElectedBy_3 : decode cX9_isElectedBy 3 = .ok (.aload_n 0, 1) := by decide +kernel
theorem dX9_isElectedBy_4 : decode cX9_isElectedBy 4 = .ok (.getfield 28, 3) := by decide +kernel
theorem dX9_isElectedBy_7 : decode cX9_isElectedBy 7 = .ok (.iconst 1, 1) := by decide +kernel
theorem dX9_isElectedBy_8 : decode cX9_isElectedBy 8 = .ok (.iaload, 1) := by decide +kernel
theorem dX9_isElectedBy_9 : decode cX9_isElectedBy 9 = .ok (.if_icmp .ge 78, 3) := by decide +kernel
theorem dX9_isElectedBy_12 : decode cX9_isElectedBy 12 = .ok (.aload_n 0, 1) := by decide +kernel
theorem dX9_isElectedBy_13 : decode cX9_isElectedBy 13 = .ok (.getfield 61, 3) := by decide +kernel
theorem dX9_isElectedBy_16 : decode cX9_isElectedBy 16 = .ok (.iload_n 3, 1) := by decide +kernel
theorem dX9_isElectedBy_17 : decode cX9_isElectedBy 17 = .ok (.iconst 0, 1) := by decide +kernel
theorem dX9_isElectedBy_18 : decode cX9_isElectedBy 18 = .ok (.iastore, 1) := by decide +kernel
theorem dX9_isElectedBy_19 : decode cX9_isElectedBy 19 = .ok (.iconst 1, 1) := by decide +kernel
theorem dX9_isElectedBy_20 : decode cX9_isElectedBy 20 = .ok (.istore 4, 2) := by decide +kernel
theorem dX9_isElectedBy_22 : decode cX9_isElectedBy 22 = .ok (.iload 4, 2) := by decide +kernel
theorem dX9_isElectedBy_24 : decode cX9_isElectedBy 24 = .ok (.aload_n 0, 1) := by decide +kernel
theorem dX9_isElectedBy_25 : decode cX9_isElectedBy 25 = .ok (.getfield 28, 3) := by decide +kernel
theorem dX9_isElectedBy_28 : decode cX9_isElectedBy 28 = .ok (.iconst 0, 1) := by decide +kernel
theorem dX9_isElectedBy_29 : decode cX9_isElectedBy 29 = .ok (.iaload, 1) := by decide +kernel
theorem dX9_isElectedBy_30 : decode cX9_isElectedBy 30 = .ok (.if_icmp .ge 51, 3) := by decide +kernel
theorem dX9_isElectedBy_33 : decode cX9_isElectedBy 33 = .ok (.aload_n 0, 1) := by decide +kernel
theorem dX9_isElectedBy_34 : decode cX9_isElectedBy 34 = .ok (.getfield 61, 3) := by decide +kernel
theorem dX9_isElectedBy_37 : decode cX9_isElectedBy 37 = .ok (.iload_n 3, 1) := by decide +kernel
theorem dX9_isElectedBy_38 : decode cX9_isElectedBy 38 = .ok (.aload_n 0, 1) := by decide +kernel
theorem dX9_isElectedBy_39 : decode cX9_isElectedBy 39 = .ok (.iload_n 1, 1) := by decide +kernel
theorem dX9_isElectedBy_40 : decode cX9_isElectedBy 40 = .ok (.iload_n 2, 1) := by decide +kernel
theorem dX9_isElectedBy_41 : decode cX9_isElectedBy 41 = .ok (.iload 4, 2) := by decide +kernel
theorem dX9_isElectedBy_43 : decode cX9_isElectedBy 43 = .ok (.iload_n 3, 1) := by decide +kernel
theorem dX9_isElectedBy_44 : decode cX9_isElectedBy 44 = .ok (.invokevirtual 263, 3) := by decide +kernel
theorem dX9_isElectedBy_47 : decode cX9_isElectedBy 47 = .ok (.aload_n 0, 1) := by decide +kernel
theorem dX9_isElectedBy_48 : decode cX9_isElectedBy 48 = .ok (.iload_n 1, 1) := by decide +kernel
theorem dX9_isElectedBy_49 : decode cX9_isElectedBy 49 = .ok (.iload_n 2, 1) := by decide +kernel
theorem dX9_isElectedBy_50 : decode cX9_isElectedBy 50 = .ok (.aload_n 0, 1) := by decide +kernel
theorem dX9_isElectedBy_51 : decode cX9_isElectedBy 51 = .ok (.getfield 61, 3) := by decide +kernel
theorem dX9_isElectedBy_54 : decode cX9_isElectedBy 54 = .ok (.iload_n 3, 1) := by decide +kernel
theorem dX9_isElectedBy_55 : decode cX9_isElectedBy 55 = .ok (.iaload, 1) := by decide +kernel
theorem dX9_isElectedBy_56 : decode cX9_isElectedBy 56 = .ok (.iload_n 3, 1) := by decide +kernel
theorem dX9_isElectedBy_57 : decode cX9_isElectedBy 57 = .ok (.invokevirtual 263, 3) := by decide +kernel
theorem dX9_isElectedBy_60 : decode cX9_isElectedBy 60 = .ok (.if_icmp .le 8, 3) := by decide +kernel
theorem dX9_isElectedBy_63 : decode cX9_isElectedBy 63 = .ok (.iload 4, 2) := by decide +kernel
theorem dX9_isElectedBy_65 : decode cX9_isElectedBy 65 = .ok (.goto 9, 3) := by decide +kernel
theorem dX9_isElectedBy_68 : decode cX9_isElectedBy 68 = .ok (.aload_n 0, 1) := by decide +kernel
theorem dX9_isElectedBy_69 : decode cX9_isElectedBy 69 = .ok (.getfield 61, 3) := by decide +kernel
theorem dX9_isElectedBy_72 : decode cX9_isElectedBy 72 = .ok (.iload_n 3, 1) := by decide +kernel
theorem dX9_isElectedBy_73 : decode cX9_isElectedBy 73 = .ok (.iaload, 1) := by decide +kernel
theorem dX9_isElectedBy_74 : decode cX9_isElectedBy 74 = .ok (.iastore, 1) := by decide +kernel
theorem dX9_isElectedBy_75 : decode cX9_isElectedBy 75 = .ok (.iinc 4 1, 3) := by decide +kernel
theorem dX9_isElectedBy_78 : decode cX9_isElectedBy 78 = .ok (.goto (-56), 3) := by decide +kernel
theorem dX9_isElectedBy_81 : decode cX9_isElectedBy 81 = .ok (.iinc 3 1, 3) := by decide +kernel
theorem dX9_isElectedBy_84 : decode cX9_isElectedBy 84 = .ok (.goto (-82), 3) := by decide +kernel
theorem dX9_isElectedBy_87 : decode cX9_isElectedBy 87 = .ok (.aload_n 0, 1) := by decide +kernel
theorem dX9_isElectedBy_88 : decode cX9_isElectedBy 88 = .ok (.invokevirtual 239, 3) := by decide +kernel
theorem dX9_isElectedBy_91 : decode cX9_isElectedBy 91 = .ok (.iload_n 1, 1) := by decide +kernel
theorem dX9_isElectedBy_92 : decode cX9_isElectedBy 92 = .ok (.if_icmp .ne 7, 3) := by decide +kernel
theorem dX9_isElectedBy_95 : decode cX9_isElectedBy 95 = .ok (.iconst 1, 1) := by decide +kernel
theorem dX9_isElectedBy_96 : decode cX9_isElectedBy 96 = .ok (.goto 4, 3) := by decide +kernel
theorem dX9_isElectedBy_99 : decode cX9_isElectedBy 99 = .ok (.iconst 0, 1) := by decide +kernel
theorem dX9_isElectedBy_100 : decode cX9_isElectedBy 100 = .ok (.ireturn, 1) := by decide +kernel
theorem dX9_findWish_0 : decode cX9_findWish 0 = .ok (.aload_n 0, 1) := by decide +kernel
theorem dX9_findWish_1 : decode cX9_findWish 1 = .ok (.getfield 64, 3) := by decide +kernel
theorem dX9_findWish_4 : decode cX9_findWish 4 = .ok (.iconst 0, 1) := by decide +kernel
theorem dX9_findWish_5 : decode cX9_findWish 5 = .ok (.iconst (-1), 1) := by decide +kernel
theorem dX9_findWish_6 : decode cX9_findWish 6 = .ok (.iastore, 1) := by decide +kernel
theorem dX9_findWish_7 : decode cX9_findWish 7 = .ok (.aload_n 0, 1) := by decide +kernel
theorem dX9_findWish_8 : decode cX9_findWish 8 = .ok (.getfield 64, 3) := by decide +kernel
theorem dX9_findWish_11 : decode cX9_findWish 11 = .ok (.iconst 1, 1) := by decide +kernel
theorem dX9_findWish_12 : decode cX9_findWish 12 = .ok (.iconst (-1), 1) := by decide +kernel
theorem dX9_findWish_13 : decode cX9_findWish 13 = .ok (.iastore, 1) := by decide +kernel
theorem dX9_findWish_14 : decode cX9_findWish 14 = .ok (.bipush 111, 2) := by decide +kernel
theorem dX9_findWish_16 : decode cX9_findWish 16 = .ok (.istore_n 2, 1) := by decide +kernel
theorem dX9_findWish_17 : decode cX9_findWish 17 = .ok (.iload_n 2, 1) := by decide +kernel
theorem dX9_findWish_18 : decode cX9_findWish 18 = .ok (.sipush 1000, 3) := by decide +kernel
theorem dX9_findWish_21 : decode cX9_findWish 21 = .ok (.if_icmp .ge 126, 3) := by decide +kernel
theorem dX9_findWish_24 : decode cX9_findWish 24 = .ok (.iload_n 2, 1) := by decide +kernel
theorem dX9_findWish_25 : decode cX9_findWish 25 = .ok (.bipush 100, 2) := by decide +kernel
theorem dX9_findWish_27 : decode cX9_findWish 27 = .ok (.idiv, 1) := by decide +kernel
theorem dX9_findWish_28 : decode cX9_findWish 28 = .ok (.istore_n 3, 1) := by decide +kernel
theorem dX9_findWish_29 : decode cX9_findWish 29 = .ok (.iload_n 2, 1) := by decide +kernel
theorem dX9_findWish_30 : decode cX9_findWish 30 = .ok (.bipush 10, 2) := by decide +kernel
theorem dX9_findWish_32 : decode cX9_findWish 32 = .ok (.idiv, 1) := by decide +kernel
theorem dX9_findWish_33 : decode cX9_findWish 33 = .ok (.bipush 10, 2) := by decide +kernel
theorem dX9_findWish_35 : decode cX9_findWish 35 = .ok (.irem, 1) := by decide +kernel
theorem dX9_findWish_36 : decode cX9_findWish 36 = .ok (.istore 4, 2) := by decide +kernel
theorem dX9_findWish_38 : decode cX9_findWish 38 = .ok (.iload_n 2, 1) := by decide +kernel
theorem dX9_findWish_39 : decode cX9_findWish 39 = .ok (.bipush 10, 2) := by decide +kernel
theorem dX9_findWish_41 : decode cX9_findWish 41 = .ok (.irem, 1) := by decide +kernel
theorem dX9_findWish_42 : decode cX9_findWish 42 = .ok (.istore 5, 2) := by decide +kernel
theorem dX9_findWish_44 : decode cX9_findWish 44 = .ok (.iload 4, 2) := by decide +kernel
theorem dX9_findWish_46 : decode cX9_findWish 46 = .ok (.ifCond .le 95, 3) := by decide +kernel
theorem dX9_findWish_49 : decode cX9_findWish 49 = .ok (.iload 5, 2) := by decide +kernel
theorem dX9_findWish_51 : decode cX9_findWish 51 = .ok (.ifCond .le 90, 3) := by decide +kernel
theorem dX9_findWish_54 : decode cX9_findWish 54 = .ok (.iload_n 3, 1) := by decide +kernel
theorem dX9_findWish_55 : decode cX9_findWish 55 = .ok (.aload_n 0, 1) := by decide +kernel
theorem dX9_findWish_56 : decode cX9_findWish 56 = .ok (.iconst 0, 1) := by decide +kernel
theorem dX9_findWish_57 : decode cX9_findWish 57 = .ok (.iload_n 1, 1) := by decide +kernel
theorem dX9_findWish_58 : decode cX9_findWish 58 = .ok (.iconst 0, 1) := by decide +kernel
theorem dX9_findWish_59 : decode cX9_findWish 59 = .ok (.invokevirtual 177, 3) := by decide +kernel
theorem dX9_findWish_62 : decode cX9_findWish 62 = .ok (.isub, 1) := by decide +kernel
theorem dX9_findWish_63 : decode cX9_findWish 63 = .ok (.invokestatic 233, 3) := by decide +kernel
theorem dX9_findWish_66 : decode cX9_findWish 66 = .ok (.iload 4, 2) := by decide +kernel
theorem dX9_findWish_68 : decode cX9_findWish 68 = .ok (.aload_n 0, 1) := by decide +kernel
theorem dX9_findWish_69 : decode cX9_findWish 69 = .ok (.iconst 0, 1) := by decide +kernel
theorem dX9_findWish_70 : decode cX9_findWish 70 = .ok (.iload_n 1, 1) := by decide +kernel
theorem dX9_findWish_71 : decode cX9_findWish 71 = .ok (.iconst 1, 1) := by decide +kernel
theorem dX9_findWish_72 : decode cX9_findWish 72 = .ok (.invokevirtual 177, 3) := by decide +kernel
theorem dX9_findWish_75 : decode cX9_findWish 75 = .ok (.isub, 1) := by decide +kernel
theorem dX9_findWish_76 : decode cX9_findWish 76 = .ok (.invokestatic 233, 3) := by decide +kernel
theorem dX9_findWish_79 : decode cX9_findWish 79 = .ok (.iadd, 1) := by decide +kernel
theorem dX9_findWish_80 : decode cX9_findWish 80 = .ok (.iload 5, 2) := by decide +kernel
theorem dX9_findWish_82 : decode cX9_findWish 82 = .ok (.aload_n 0, 1) := by decide +kernel
theorem dX9_findWish_83 : decode cX9_findWish 83 = .ok (.iconst 0, 1) := by decide +kernel
theorem dX9_findWish_84 : decode cX9_findWish 84 = .ok (.iload_n 1, 1) := by decide +kernel
theorem dX9_findWish_85 : decode cX9_findWish 85 = .ok (.iconst 2, 1) := by decide +kernel
theorem dX9_findWish_86 : decode cX9_findWish 86 = .ok (.invokevirtual 177, 3) := by decide +kernel
theorem dX9_findWish_89 : decode cX9_findWish 89 = .ok (.isub, 1) := by decide +kernel
theorem dX9_findWish_90 : decode cX9_findWish 90 = .ok (.invokestatic 233, 3) := by decide +kernel
theorem dX9_findWish_93 : decode cX9_findWish 93 = .ok (.iadd, 1) := by decide +kernel
theorem dX9_findWish_94 : decode cX9_findWish 94 = .ok (.istore 6, 2) := by decide +kernel
theorem dX9_findWish_96 : decode cX9_findWish 96 = .ok (.aload_n 0, 1) := by decide +kernel
theorem dX9_findWish_97 : decode cX9_findWish 97 = .ok (.getfield 64, 3) := by decide +kernel
theorem dX9_findWish_100 : decode cX9_findWish 100 = .ok (.iconst 1, 1) := by decide +kernel
theorem dX9_findWish_101 : decode cX9_findWish 101 = .ok (.iaload, 1) := by decide +kernel
theorem dX9_findWish_102 : decode cX9_findWish 102 = .ok (.iconst (-1), 1) := by decide +kernel
theorem dX9_findWish_103 : decode cX9_findWish 103 = .ok (.if_icmp .eq 14, 3) := by decide +kernel
theorem dX9_findWish_106 : decode cX9_findWish 106 = .ok (.iload 6, 2) := by decide +kernel
theorem dX9_findWish_108 : decode cX9_findWish 108 = .ok (.aload_n 0, 1) := by decide +kernel
theorem dX9_findWish_109 : decode cX9_findWish 109 = .ok (.getfield 64, 3) := by decide +kernel
theorem dX9_findWish_112 : decode cX9_findWish 112 = .ok (.iconst 1, 1) := by decide +kernel
theorem dX9_findWish_113 : decode cX9_findWish 113 = .ok (.iaload, 1) := by decide +kernel
theorem dX9_findWish_114 : decode cX9_findWish 114 = .ok (.if_icmp .ge 27, 3) := by decide +kernel
theorem dX9_findWish_117 : decode cX9_findWish 117 = .ok (.aload_n 0, 1) := by decide +kernel
theorem dX9_findWish_118 : decode cX9_findWish 118 = .ok (.iload_n 1, 1) := by decide +kernel
theorem dX9_findWish_119 : decode cX9_findWish 119 = .ok (.iload_n 2, 1) := by decide +kernel
theorem dX9_findWish_120 : decode cX9_findWish 120 = .ok (.invokevirtual 267, 3) := by decide +kernel
theorem dX9_findWish_123 : decode cX9_findWish 123 = .ok (.ifCond .eq 18, 3) := by decide +kernel
theorem dX9_findWish_126 : decode cX9_findWish 126 = .ok (.aload_n 0, 1) := by decide +kernel
theorem dX9_findWish_127 : decode cX9_findWish 127 = .ok (.getfield 64, 3) := by decide +kernel
theorem dX9_findWish_130 : decode cX9_findWish 130 = .ok (.iconst 0, 1) := by decide +kernel
theorem dX9_findWish_131 : decode cX9_findWish 131 = .ok (.iload_n 2, 1) := by decide +kernel
theorem dX9_findWish_132 : decode cX9_findWish 132 = .ok (.iastore, 1) := by decide +kernel
theorem dX9_findWish_133 : decode cX9_findWish 133 = .ok (.aload_n 0, 1) := by decide +kernel
theorem dX9_findWish_134 : decode cX9_findWish 134 = .ok (.getfield 64, 3) := by decide +kernel
theorem dX9_findWish_137 : decode cX9_findWish 137 = .ok (.iconst 1, 1) := by decide +kernel
theorem dX9_findWish_138 : decode cX9_findWish 138 = .ok (.iload 6, 2) := by decide +kernel
theorem dX9_findWish_140 : decode cX9_findWish 140 = .ok (.iastore, 1) := by decide +kernel
theorem dX9_findWish_141 : decode cX9_findWish 141 = .ok (.iinc 2 1, 3) := by decide +kernel
theorem dX9_findWish_144 : decode cX9_findWish 144 = .ok (.goto (-127), 3) := by decide +kernel
theorem dX9_findWish_147 : decode cX9_findWish 147 = .ok (.return_, 1) := by decide +kernel
theorem dX9_wins_0 : decode cX9_wins 0 = .ok (.aload_n 0, 1) := by decide +kernel
theorem dX9_wins_1 : decode cX9_wins 1 = .ok (.invokevirtual 151, 3) := by decide +kernel
theorem dX9_wins_4 : decode cX9_wins 4 = .ok (.aload_n 0, 1) := by decide +kernel
theorem dX9_wins_5 : decode cX9_wins 5 = .ok (.iload_n 1, 1) := by decide +kernel
theorem dX9_wins_6 : decode cX9_wins 6 = .ok (.invokevirtual 174, 3) := by decide +kernel
theorem dX9_wins_9 : decode cX9_wins 9 = .ok (.ifCond .eq 10, 3) := by decide +kernel
theorem dX9_wins_12 : decode cX9_wins 12 = .ok (.iload_n 2, 1) := by decide +kernel
theorem dX9_wins_13 : decode cX9_wins 13 = .ok (.invokestatic 157, 3) := by decide +kernel
theorem dX9_wins_16 : decode cX9_wins 16 = .ok (.ifCond .ne 6, 3) := by decide +kernel
theorem dX9_wins_19 : decode cX9_wins 19 = .ok (.bipush (-2), 2) := by decide +kernel
theorem dX9_wins_21 : decode cX9_wins 21 = .ok (.ireturn, 1) := by decide +kernel
theorem dX9_wins_22 : decode cX9_wins 22 = .ok (.aload_n 0, 1) := by decide +kernel
theorem dX9_wins_23 : decode cX9_wins 23 = .ok (.iload_n 1, 1) := by decide +kernel
theorem dX9_wins_24 : decode cX9_wins 24 = .ok (.invokevirtual 271, 3) := by decide +kernel
theorem dX9_wins_27 : decode cX9_wins 27 = .ok (.aload_n 0, 1) := by decide +kernel
theorem dX9_wins_28 : decode cX9_wins 28 = .ok (.getfield 64, 3) := by decide +kernel
theorem dX9_wins_31 : decode cX9_wins 31 = .ok (.iload_n 2, 1) := by decide +kernel
theorem dX9_wins_32 : decode cX9_wins 32 = .ok (.iaload, 1) := by decide +kernel
theorem dX9_wins_33 : decode cX9_wins 33 = .ok (.ireturn, 1) := by decide +kernel
theorem dX9_isHedged_0 : decode cX9_isHedged 0 = .ok (.iconst 1, 1) := by decide +kernel
theorem dX9_isHedged_1 : decode cX9_isHedged 1 = .ok (.istore 5, 2) := by decide +kernel
theorem dX9_isHedged_3 : decode cX9_isHedged 3 = .ok (.iconst 0, 1) := by decide +kernel
theorem dX9_isHedged_4 : decode cX9_isHedged 4 = .ok (.istore 6, 2) := by decide +kernel
theorem dX9_isHedged_6 : decode cX9_isHedged 6 = .ok (.iconst 0, 1) := by decide +kernel
theorem dX9_isHedged_7 : decode cX9_isHedged 7 = .ok (.istore 7, 2) := by decide +kernel
theorem dX9_isHedged_9 : decode cX9_isHedged 9 = .ok (.iload 7, 2) := by decide +kernel
theorem dX9_isHedged_11 : decode cX9_isHedged 11 = .ok (.aload_n 0, 1) := by decide +kernel
theorem dX9_isHedged_12 : decode cX9_isHedged 12 = .ok (.getfield 28, 3) := by decide +kernel
theorem dX9_isHedged_15 : decode cX9_isHedged 15 = .ok (.iconst 0, 1) := by decide +kernel
theorem dX9_isHedged_16 : decode cX9_isHedged 16 = .ok (.iaload, 1) := by decide +kernel
theorem dX9_isHedged_17 : decode cX9_isHedged 17 = .ok (.if_icmp .ge 86, 3) := by decide +kernel
theorem dX9_isHedged_20 : decode cX9_isHedged 20 = .ok (.aload_n 0, 1) := by decide +kernel
theorem dX9_isHedged_21 : decode cX9_isHedged 21 = .ok (.iconst 0, 1) := by decide +kernel
theorem dX9_isHedged_22 : decode cX9_isHedged 22 = .ok (.iload 7, 2) := by decide +kernel
theorem dX9_isHedged_24 : decode cX9_isHedged 24 = .ok (.iload_n 1, 1) := by decide +kernel
theorem dX9_isHedged_25 : decode cX9_isHedged 25 = .ok (.invokevirtual 186, 3) := by decide +kernel
theorem dX9_isHedged_28 : decode cX9_isHedged 28 = .ok (.iload_n 2, 1) := by decide +kernel
theorem dX9_isHedged_29 : decode cX9_isHedged 29 = .ok (.aload_n 0, 1) := by decide +kernel
theorem dX9_isHedged_30 : decode cX9_isHedged 30 = .ok (.iconst 0, 1) := by decide +kernel
theorem dX9_isHedged_31 : decode cX9_isHedged 31 = .ok (.iload 7, 2) := by decide +kernel
theorem dX9_isHedged_33 : decode cX9_isHedged 33 = .ok (.iconst 0, 1) := by decide +kernel
theorem dX9_isHedged_34 : decode cX9_isHedged 34 = .ok (.invokevirtual 177, 3) := by decide +kernel
theorem dX9_isHedged_37 : decode cX9_isHedged 37 = .ok (.imul, 1) := by decide +kernel
theorem dX9_isHedged_38 : decode cX9_isHedged 38 = .ok (.iadd, 1) := by decide +kernel
theorem dX9_isHedged_39 : decode cX9_isHedged 39 = .ok (.iload_n 3, 1) := by decide +kernel
theorem dX9_isHedged_40 : decode cX9_isHedged 40 = .ok (.aload_n 0, 1) := by decide +kernel
theorem dX9_isHedged_41 : decode cX9_isHedged 41 = .ok (.iconst 0, 1) := by decide +kernel
theorem dX9_isHedged_42 : decode cX9_isHedged 42 = .ok (.iload 7, 2) := by decide +kernel
theorem dX9_isHedged_44 : decode cX9_isHedged 44 = .ok (.iconst 1, 1) := by decide +kernel
theorem dX9_isHedged_45 : decode cX9_isHedged 45 = .ok (.invokevirtual 177, 3) := by decide +kernel
theorem dX9_isHedged_48 : decode cX9_isHedged 48 = .ok (.imul, 1) := by decide +kernel
theorem dX9_isHedged_49 : decode cX9_isHedged 49 = .ok (.iadd, 1) := by decide +kernel
theorem dX9_isHedged_50 : decode cX9_isHedged 50 = .ok (.iload 4, 2) := by decide +kernel
theorem dX9_isHedged_52 : decode cX9_isHedged 52 = .ok (.aload_n 0, 1) := by decide +kernel
theorem dX9_isHedged_53 : decode cX9_isHedged 53 = .ok (.iconst 0, 1) := by decide +kernel
theorem dX9_isHedged_54 : decode cX9_isHedged 54 = .ok (.iload 7, 2) := by decide +kernel
theorem dX9_isHedged_56 : decode cX9_isHedged 56 = .ok (.iconst 2, 1) := by decide +kernel
theorem dX9_isHedged_57 : decode cX9_isHedged 57 = .ok (.invokevirtual 177, 3) := by decide +kernel
theorem dX9_isHedged_60 : decode cX9_isHedged 60 = .ok (.imul, 1) := by decide +kernel
theorem dX9_isHedged_61 : decode cX9_isHedged 61 = .ok (.iadd, 1) := by decide +kernel
theorem dX9_isHedged_62 : decode cX9_isHedged 62 = .ok (.istore 8, 2) := by decide +kernel
theorem dX9_isHedged_64 : decode cX9_isHedged 64 = .ok (.iload 7, 2) := by decide +kernel
theorem dX9_isHedged_66 : decode cX9_isHedged 66 = .ok (.ifCond .ne 8, 3) := by decide +kernel
theorem dX9_isHedged_69 : decode cX9_isHedged 69 = .ok (.iload 8, 2) := by decide +kernel
theorem dX9_isHedged_71 : decode cX9_isHedged 71 = .ok (.goto 5, 3) := by decide +kernel
theorem dX9_isHedged_74 : decode cX9_isHedged 74 = .ok (.iload 6, 2) := by decide +kernel
theorem dX9_isHedged_76 : decode cX9_isHedged 76 = .ok (.istore 6, 2) := by decide +kernel
theorem dX9_isHedged_78 : decode cX9_isHedged 78 = .ok (.iload 5, 2) := by decide +kernel
theorem dX9_isHedged_80 : decode cX9_isHedged 80 = .ok (.ifCond .eq 14, 3) := by decide +kernel
theorem dX9_isHedged_83 : decode cX9_isHedged 83 = .ok (.iload 8, 2) := by decide +kernel
theorem dX9_isHedged_85 : decode cX9_isHedged 85 = .ok (.iload 6, 2) := by decide +kernel
theorem dX9_isHedged_87 : decode cX9_isHedged 87 = .ok (.if_icmp .ne 7, 3) := by decide +kernel
theorem dX9_isHedged_90 : decode cX9_isHedged 90 = .ok (.iconst 1, 1) := by decide +kernel
theorem dX9_isHedged_91 : decode cX9_isHedged 91 = .ok (.goto 4, 3) := by decide +kernel
theorem dX9_isHedged_94 : decode cX9_isHedged 94 = .ok (.iconst 0, 1) := by decide +kernel
theorem dX9_isHedged_95 : decode cX9_isHedged 95 = .ok (.istore 5, 2) := by decide +kernel
theorem dX9_isHedged_97 : decode cX9_isHedged 97 = .ok (.iinc 7 1, 3) := by decide +kernel
theorem dX9_isHedged_100 : decode cX9_isHedged 100 = .ok (.goto (-91), 3) := by decide +kernel
theorem dX9_isHedged_103 : decode cX9_isHedged 103 = .ok (.iload 5, 2) := by decide +kernel
theorem dX9_isHedged_105 : decode cX9_isHedged 105 = .ok (.ireturn, 1) := by decide +kernel
theorem dX9_hedgeOf_0 : decode cX9_hedgeOf 0 = .ok (.iconst (-1), 1) := by decide +kernel
theorem dX9_hedgeOf_1 : decode cX9_hedgeOf 1 = .ok (.istore_n 2, 1) := by decide +kernel
theorem dX9_hedgeOf_2 : decode cX9_hedgeOf 2 = .ok (.iconst 0, 1) := by decide +kernel
theorem dX9_hedgeOf_3 : decode cX9_hedgeOf 3 = .ok (.istore_n 3, 1) := by decide +kernel
theorem dX9_hedgeOf_4 : decode cX9_hedgeOf 4 = .ok (.iconst 0, 1) := by decide +kernel
theorem dX9_hedgeOf_5 : decode cX9_hedgeOf 5 = .ok (.istore 4, 2) := by decide +kernel
theorem dX9_hedgeOf_7 : decode cX9_hedgeOf 7 = .ok (.iload 4, 2) := by decide +kernel
theorem dX9_hedgeOf_9 : decode cX9_hedgeOf 9 = .ok (.sipush 1000, 3) := by decide +kernel
theorem dX9_hedgeOf_12 : decode cX9_hedgeOf 12 = .ok (.if_icmp .ge 76, 3) := by decide +kernel
theorem dX9_hedgeOf_15 : decode cX9_hedgeOf 15 = .ok (.iload 4, 2) := by decide +kernel
theorem dX9_hedgeOf_17 : decode cX9_hedgeOf 17 = .ok (.bipush 100, 2) := by decide +kernel
theorem dX9_hedgeOf_19 : decode cX9_hedgeOf 19 = .ok (.idiv, 1) := by decide +kernel
theorem dX9_hedgeOf_20 : decode cX9_hedgeOf 20 = .ok (.istore 5, 2) := by decide +kernel
theorem dX9_hedgeOf_22 : decode cX9_hedgeOf 22 = .ok (.iload 4, 2) := by decide +kernel
theorem dX9_hedgeOf_24 : decode cX9_hedgeOf 24 = .ok (.bipush 10, 2) := by decide +kernel
theorem dX9_hedgeOf_26 : decode cX9_hedgeOf 26 = .ok (.idiv, 1) := by decide +kernel
theorem dX9_hedgeOf_27 : decode cX9_hedgeOf 27 = .ok (.bipush 10, 2) := by decide +kernel
theorem dX9_hedgeOf_29 : decode cX9_hedgeOf 29 = .ok (.irem, 1) := by decide +kernel
theorem dX9_hedgeOf_30 : decode cX9_hedgeOf 30 = .ok (.istore 6, 2) := by decide +kernel
theorem dX9_hedgeOf_32 : decode cX9_hedgeOf 32 = .ok (.iload 4, 2) := by decide +kernel
theorem dX9_hedgeOf_34 : decode cX9_hedgeOf 34 = .ok (.bipush 10, 2) := by decide +kernel
theorem dX9_hedgeOf_36 : decode cX9_hedgeOf 36 = .ok (.irem, 1) := by decide +kernel
theorem dX9_hedgeOf_37 : decode cX9_hedgeOf 37 = .ok (.istore 7, 2) := by decide +kernel
theorem dX9_hedgeOf_39 : decode cX9_hedgeOf 39 = .ok (.iload_n 2, 1) := by decide +kernel
theorem dX9_hedgeOf_40 : decode cX9_hedgeOf 40 = .ok (.iconst (-1), 1) := by decide +kernel
theorem dX9_hedgeOf_41 : decode cX9_hedgeOf 41 = .ok (.if_icmp .eq 15, 3) := by decide +kernel
theorem dX9_hedgeOf_44 : decode cX9_hedgeOf 44 = .ok (.iload 5, 2) := by decide +kernel
theorem dX9_hedgeOf_46 : decode cX9_hedgeOf 46 = .ok (.iload 6, 2) := by decide +kernel
theorem dX9_hedgeOf_48 : decode cX9_hedgeOf 48 = .ok (.iadd, 1) := by decide +kernel
theorem dX9_hedgeOf_49 : decode cX9_hedgeOf 49 = .ok (.iload 7, 2) := by decide +kernel
theorem dX9_hedgeOf_51 : decode cX9_hedgeOf 51 = .ok (.iadd, 1) := by decide +kernel
theorem dX9_hedgeOf_52 : decode cX9_hedgeOf 52 = .ok (.iload_n 3, 1) := by decide +kernel
theorem dX9_hedgeOf_53 : decode cX9_hedgeOf 53 = .ok (.if_icmp .ge 29, 3) := by decide +kernel
theorem dX9_hedgeOf_56 : decode cX9_hedgeOf 56 = .ok (.aload_n 0, 1) := by decide +kernel
theorem dX9_hedgeOf_57 : decode cX9_hedgeOf 57 = .ok (.iload_n 1, 1) := by decide +kernel
theorem dX9_hedgeOf_58 : decode cX9_hedgeOf 58 = .ok (.iload 5, 2) := by decide +kernel
theorem dX9_hedgeOf_60 : decode cX9_hedgeOf 60 = .ok (.iload 6, 2) := by decide +kernel
theorem dX9_hedgeOf_62 : decode cX9_hedgeOf 62 = .ok (.iload 7, 2) := by decide +kernel
theorem dX9_hedgeOf_64 : decode cX9_hedgeOf 64 = .ok (.invokevirtual 274, 3) := by decide +kernel
theorem dX9_hedgeOf_67 : decode cX9_hedgeOf 67 = .ok (.ifCond .eq 15, 3) := by decide +kernel
theorem dX9_hedgeOf_70 : decode cX9_hedgeOf 70 = .ok (.iload 4, 2) := by decide +kernel
theorem dX9_hedgeOf_72 : decode cX9_hedgeOf 72 = .ok (.istore_n 2, 1) := by decide +kernel
theorem dX9_hedgeOf_73 : decode cX9_hedgeOf 73 = .ok (.iload 5, 2) := by decide +kernel
theorem dX9_hedgeOf_75 : decode cX9_hedgeOf 75 = .ok (.iload 6, 2) := by decide +kernel
theorem dX9_hedgeOf_77 : decode cX9_hedgeOf 77 = .ok (.iadd, 1) := by decide +kernel
theorem dX9_hedgeOf_78 : decode cX9_hedgeOf 78 = .ok (.iload 7, 2) := by decide +kernel
theorem dX9_hedgeOf_80 : decode cX9_hedgeOf 80 = .ok (.iadd, 1) := by decide +kernel
theorem dX9_hedgeOf_81 : decode cX9_hedgeOf 81 = .ok (.istore_n 3, 1) := by decide +kernel
theorem dX9_hedgeOf_82 : decode cX9_hedgeOf 82 = .ok (.iinc 4 1, 3) := by decide +kernel
theorem dX9_hedgeOf_85 : decode cX9_hedgeOf 85 = .ok (.goto (-78), 3) := by decide +kernel
theorem dX9_hedgeOf_88 : decode cX9_hedgeOf 88 = .ok (.iload_n 2, 1) := by decide +kernel
theorem dX9_hedgeOf_89 : decode cX9_hedgeOf 89 = .ok (.ireturn, 1) := by decide +kernel
theorem dX9_hedge_0 : decode cX9_hedge 0 = .ok (.aload_n 0, 1) := by decide +kernel
theorem dX9_hedge_1 : decode cX9_hedge 1 = .ok (.invokevirtual 151, 3) := by decide +kernel
theorem dX9_hedge_4 : decode cX9_hedge 4 = .ok (.aload_n 0, 1) := by decide +kernel
theorem dX9_hedge_5 : decode cX9_hedge 5 = .ok (.iload_n 1, 1) := by decide +kernel
theorem dX9_hedge_6 : decode cX9_hedge 6 = .ok (.invokevirtual 154, 3) := by decide +kernel
theorem dX9_hedge_9 : decode cX9_hedge 9 = .ok (.ifCond .eq 11, 3) := by decide +kernel
theorem dX9_hedge_12 : decode cX9_hedge 12 = .ok (.aload_n 0, 1) := by decide +kernel
theorem dX9_hedge_13 : decode cX9_hedge 13 = .ok (.iload_n 1, 1) := by decide +kernel
theorem dX9_hedge_14 : decode cX9_hedge 14 = .ok (.invokevirtual 277, 3) := by decide +kernel
theorem dX9_hedge_17 : decode cX9_hedge 17 = .ok (.goto 5, 3) := by decide +kernel
theorem dX9_hedge_20 : decode cX9_hedge 20 = .ok (.bipush (-2), 2) := by decide +kernel
theorem dX9_hedge_22 : decode cX9_hedge 22 = .ok (.ireturn, 1) := by decide +kernel
theorem dX9_joins_0 : decode cX9_joins 0 = .ok (.iconst 0, 1) := by decide +kernel
theorem dX9_joins_1 : decode cX9_joins 1 = .ok (.istore 7, 2) := by decide +kernel
theorem dX9_joins_3 : decode cX9_joins 3 = .ok (.iload 7, 2) := by decide +kernel
theorem dX9_joins_5 : decode cX9_joins 5 = .ok (.bipush 6, 2) := by decide +kernel
theorem dX9_joins_7 : decode cX9_joins 7 = .ok (.if_icmp .ge 84, 3) := by decide +kernel
theorem dX9_joins_10 : decode cX9_joins 10 = .ok (.aload_n 0, 1) := by decide +kernel
theorem dX9_joins_11 : decode cX9_joins 11 = .ok (.getfield 67, 3) := by decide +kernel
theorem dX9_joins_14 : decode cX9_joins 14 = .ok (.iload 7, 2) := by decide +kernel
theorem dX9_joins_16 : decode cX9_joins 16 = .ok (.iaload, 1) := by decide +kernel
theorem dX9_joins_17 : decode cX9_joins 17 = .ok (.iload_n 1, 1) := by decide +kernel
theorem dX9_joins_18 : decode cX9_joins 18 = .ok (.if_icmp .ne 67, 3) := by decide +kernel
theorem dX9_joins_21 : decode cX9_joins 21 = .ok (.aload_n 0, 1) := by decide +kernel
theorem dX9_joins_22 : decode cX9_joins 22 = .ok (.getfield 67, 3) := by decide +kernel
theorem dX9_joins_25 : decode cX9_joins 25 = .ok (.iload 7, 2) := by decide +kernel
theorem dX9_joins_27 : decode cX9_joins 27 = .ok (.iload_n 2, 1) := by decide +kernel
theorem dX9_joins_28 : decode cX9_joins 28 = .ok (.iastore, 1) := by decide +kernel
theorem dX9_joins_29 : decode cX9_joins 29 = .ok (.aload_n 0, 1) := by decide +kernel
theorem dX9_joins_30 : decode cX9_joins 30 = .ok (.getfield 70, 3) := by decide +kernel
theorem dX9_joins_33 : decode cX9_joins 33 = .ok (.iload 7, 2) := by decide +kernel
theorem dX9_joins_35 : decode cX9_joins 35 = .ok (.laload, 1) := by decide +kernel
theorem dX9_joins_36 : decode cX9_joins 36 = .ok (.lload_n 3, 1) := by decide +kernel
theorem dX9_joins_37 : decode cX9_joins 37 = .ok (.lmul, 1) := by decide +kernel
theorem dX9_joins_38 : decode cX9_joins 38 = .ok (.lstore 8, 2) := by decide +kernel
theorem dX9_joins_40 : decode cX9_joins 40 = .ok (.aload_n 0, 1) := by decide +kernel
theorem dX9_joins_41 : decode cX9_joins 41 = .ok (.getfield 74, 3) := by decide +kernel
theorem dX9_joins_44 : decode cX9_joins 44 = .ok (.iload 7, 2) := by decide +kernel
theorem dX9_joins_46 : decode cX9_joins 46 = .ok (.laload, 1) := by decide +kernel
theorem dX9_joins_47 : decode cX9_joins 47 = .ok (.lload 5, 2) := by decide +kernel
theorem dX9_joins_49 : decode cX9_joins 49 = .ok (.lmul, 1) := by decide +kernel
theorem dX9_joins_50 : decode cX9_joins 50 = .ok (.lstore 10, 2) := by decide +kernel
theorem dX9_joins_52 : decode cX9_joins 52 = .ok (.lload 8, 2) := by decide +kernel
theorem dX9_joins_54 : decode cX9_joins 54 = .ok (.lload 10, 2) := by decide +kernel
theorem dX9_joins_56 : decode cX9_joins 56 = .ok (.invokestatic 280, 3) := by decide +kernel
theorem dX9_joins_59 : decode cX9_joins 59 = .ok (.lstore 12, 2) := by decide +kernel
theorem dX9_joins_61 : decode cX9_joins 61 = .ok (.aload_n 0, 1) := by decide +kernel
theorem dX9_joins_62 : decode cX9_joins 62 = .ok (.getfield 70, 3) := by decide +kernel
theorem dX9_joins_65 : decode cX9_joins 65 = .ok (.iload 7, 2) := by decide +kernel
theorem dX9_joins_67 : decode cX9_joins 67 = .ok (.lload 8, 2) := by decide +kernel
theorem dX9_joins_69 : decode cX9_joins 69 = .ok (.lload 12, 2) := by decide +kernel
theorem dX9_joins_71 : decode cX9_joins 71 = .ok (.ldiv, 1) := by decide +kernel
theorem dX9_joins_72 : decode cX9_joins 72 = .ok (.lastore, 1) := by decide +kernel
theorem dX9_joins_73 : decode cX9_joins 73 = .ok (.aload_n 0, 1) := by decide +kernel
theorem dX9_joins_74 : decode cX9_joins 74 = .ok (.getfield 74, 3) := by decide +kernel
theorem dX9_joins_77 : decode cX9_joins 77 = .ok (.iload 7, 2) := by decide +kernel
theorem dX9_joins_79 : decode cX9_joins 79 = .ok (.lload 10, 2) := by decide +kernel
theorem dX9_joins_81 : decode cX9_joins 81 = .ok (.lload 12, 2) := by decide +kernel
theorem dX9_joins_83 : decode cX9_joins 83 = .ok (.ldiv, 1) := by decide +kernel
theorem dX9_joins_84 : decode cX9_joins 84 = .ok (.lastore, 1) := by decide +kernel
theorem dX9_joins_85 : decode cX9_joins 85 = .ok (.iinc 7 1, 3) := by decide +kernel
theorem dX9_joins_88 : decode cX9_joins 88 = .ok (.goto (-85), 3) := by decide +kernel
theorem dX9_joins_91 : decode cX9_joins 91 = .ok (.return_, 1) := by decide +kernel
theorem dX9_finds_0 : decode cX9_finds 0 = .ok (.iconst 0, 1) := by decide +kernel
theorem dX9_finds_1 : decode cX9_finds 1 = .ok (.istore_n 2, 1) := by decide +kernel
theorem dX9_finds_2 : decode cX9_finds 2 = .ok (.iload_n 2, 1) := by decide +kernel
theorem dX9_finds_3 : decode cX9_finds 3 = .ok (.bipush 6, 2) := by decide +kernel
theorem dX9_finds_5 : decode cX9_finds 5 = .ok (.if_icmp .ge 30, 3) := by decide +kernel
theorem dX9_finds_8 : decode cX9_finds 8 = .ok (.aload_n 0, 1) := by decide +kernel
theorem dX9_finds_9 : decode cX9_finds 9 = .ok (.getfield 67, 3) := by decide +kernel
theorem dX9_finds_12 : decode cX9_finds 12 = .ok (.iload_n 2, 1) := by decide +kernel
theorem dX9_finds_13 : decode cX9_finds 13 = .ok (.iload_n 2, 1) := by decide +kernel
theorem dX9_finds_14 : decode cX9_finds 14 = .ok (.iastore, 1) := by decide +kernel
theorem dX9_finds_15 : decode cX9_finds 15 = .ok (.aload_n 0, 1) := by decide +kernel
theorem dX9_finds_16 : decode cX9_finds 16 = .ok (.getfield 70, 3) := by decide +kernel
theorem dX9_finds_19 : decode cX9_finds 19 = .ok (.iload_n 2, 1) := by decide +kernel
theorem dX9_finds_20 : decode cX9_finds 20 = .ok (.lconst 1, 1) := by decide +kernel
theorem dX9_finds_21 : decode cX9_finds 21 = .ok (.lastore, 1) := by decide +kernel
theorem dX9_finds_22 : decode cX9_finds 22 = .ok (.aload_n 0, 1) := by decide +kernel
theorem dX9_finds_23 : decode cX9_finds 23 = .ok (.getfield 74, 3) := by decide +kernel
theorem dX9_finds_26 : decode cX9_finds 26 = .ok (.iload_n 2, 1) := by decide +kernel
theorem dX9_finds_27 : decode cX9_finds 27 = .ok (.lconst 1, 1) := by decide +kernel
theorem dX9_finds_28 : decode cX9_finds 28 = .ok (.lastore, 1) := by decide +kernel
theorem dX9_finds_29 : decode cX9_finds 29 = .ok (.iinc 2 1, 3) := by decide +kernel
theorem dX9_finds_32 : decode cX9_finds 32 = .ok (.goto (-30), 3) := by decide +kernel
theorem dX9_finds_35 : decode cX9_finds 35 = .ok (.aload_n 0, 1) := by decide +kernel
theorem dX9_finds_36 : decode cX9_finds 36 = .ok (.iconst (-1), 1) := by decide +kernel
theorem dX9_finds_37 : decode cX9_finds 37 = .ok (.putfield 284, 3) := by decide +kernel
theorem dX9_finds_40 : decode cX9_finds 40 = .ok (.iconst 0, 1) := by decide +kernel
theorem dX9_finds_41 : decode cX9_finds 41 = .ok (.istore_n 2, 1) := by decide +kernel
theorem dX9_finds_42 : decode cX9_finds 42 = .ok (.iload_n 2, 1) := by decide +kernel
theorem dX9_finds_43 : decode cX9_finds 43 = .ok (.aload_n 0, 1) := by decide +kernel
theorem dX9_finds_44 : decode cX9_finds 44 = .ok (.getfield 28, 3) := by decide +kernel
theorem dX9_finds_47 : decode cX9_finds 47 = .ok (.iconst 2, 1) := by decide +kernel
theorem dX9_finds_48 : decode cX9_finds 48 = .ok (.iaload, 1) := by decide +kernel
theorem dX9_finds_49 : decode cX9_finds 49 = .ok (.if_icmp .ge 198, 3) := by decide +kernel
theorem dX9_finds_52 : decode cX9_finds 52 = .ok (.aload_n 0, 1) := by decide +kernel
theorem dX9_finds_53 : decode cX9_finds 53 = .ok (.getfield 31, 3) := by decide +kernel
theorem dX9_finds_56 : decode cX9_finds 56 = .ok (.bipush 48, 2) := by decide +kernel
theorem dX9_finds_58 : decode cX9_finds 58 = .ok (.iconst 3, 1) := by decide +kernel
theorem dX9_finds_59 : decode cX9_finds 59 = .ok (.iload_n 2, 1) := by decide +kernel
theorem dX9_finds_60 : decode cX9_finds 60 = .ok (.imul, 1) := by decide +kernel
theorem dX9_finds_61 : decode cX9_finds 61 = .ok (.iadd, 1) := by decide +kernel
theorem dX9_finds_62 : decode cX9_finds 62 = .ok (.iaload, 1) := by decide +kernel
theorem dX9_finds_63 : decode cX9_finds 63 = .ok (.istore_n 3, 1) := by decide +kernel
theorem dX9_finds_64 : decode cX9_finds 64 = .ok (.aload_n 0, 1) := by decide +kernel
theorem dX9_finds_65 : decode cX9_finds 65 = .ok (.getfield 31, 3) := by decide +kernel
theorem dX9_finds_68 : decode cX9_finds 68 = .ok (.bipush 49, 2) := by decide +kernel
theorem dX9_finds_70 : decode cX9_finds 70 = .ok (.iconst 3, 1) := by decide +kernel
theorem dX9_finds_71 : decode cX9_finds 71 = .ok (.iload_n 2, 1) := by decide +kernel
theorem dX9_finds_72 : decode cX9_finds 72 = .ok (.imul, 1) := by decide +kernel
theorem dX9_finds_73 : decode cX9_finds 73 = .ok (.iadd, 1) := by decide +kernel
theorem dX9_finds_74 : decode cX9_finds 74 = .ok (.iaload, 1) := by decide +kernel
theorem dX9_finds_75 : decode cX9_finds 75 = .ok (.istore 4, 2) := by decide +kernel
theorem dX9_finds_77 : decode cX9_finds 77 = .ok (.aload_n 0, 1) := by decide +kernel
theorem dX9_finds_78 : decode cX9_finds 78 = .ok (.getfield 31, 3) := by decide +kernel
theorem dX9_finds_81 : decode cX9_finds 81 = .ok (.bipush 50, 2) := by decide +kernel
theorem dX9_finds_83 : decode cX9_finds 83 = .ok (.iconst 3, 1) := by decide +kernel
theorem dX9_finds_84 : decode cX9_finds 84 = .ok (.iload_n 2, 1) := by decide +kernel
theorem dX9_finds_85 : decode cX9_finds 85 = .ok (.imul, 1) := by decide +kernel
theorem dX9_finds_86 : decode cX9_finds 86 = .ok (.iadd, 1) := by decide +kernel
theorem dX9_finds_87 : decode cX9_finds 87 = .ok (.iaload, 1) := by decide +kernel
theorem dX9_finds_88 : decode cX9_finds 88 = .ok (.i2l, 1) := by decide +kernel
theorem dX9_finds_89 : decode cX9_finds 89 = .ok (.lstore 5, 2) := by decide +kernel
theorem dX9_finds_91 : decode cX9_finds 91 = .ok (.iload_n 1, 1) := by decide +kernel
theorem dX9_finds_92 : decode cX9_finds 92 = .ok (.iload_n 2, 1) := by decide +kernel
theorem dX9_finds_93 : decode cX9_finds 93 = .ok (.invokestatic 287, 3) := by decide +kernel
theorem dX9_finds_96 : decode cX9_finds 96 = .ok (.ifCond .ne 89, 3) := by decide +kernel
theorem dX9_finds_99 : decode cX9_finds 99 = .ok (.aload_n 0, 1) := by decide +kernel
theorem dX9_finds_100 : decode cX9_finds 100 = .ok (.getfield 67, 3) := by decide +kernel
theorem dX9_finds_103 : decode cX9_finds 103 = .ok (.iload_n 3, 1) := by decide +kernel
theorem dX9_finds_104 : decode cX9_finds 104 = .ok (.iaload, 1) := by decide +kernel
theorem dX9_finds_105 : decode cX9_finds 105 = .ok (.aload_n 0, 1) := by decide +kernel
theorem dX9_finds_106 : decode cX9_finds 106 = .ok (.getfield 67, 3) := by decide +kernel
theorem dX9_finds_109 : decode cX9_finds 109 = .ok (.iload 4, 2) := by decide +kernel
theorem dX9_finds_111 : decode cX9_finds 111 = .ok (.iaload, 1) := by decide +kernel
theorem dX9_finds_112 : decode cX9_finds 112 = .ok (.if_icmp .ne 73, 3) := by decide +kernel
theorem dX9_finds_115 : decode cX9_finds 115 = .ok (.aload_n 0, 1) := by decide +kernel
theorem dX9_finds_116 : decode cX9_finds 116 = .ok (.getfield 70, 3) := by decide +kernel
theorem dX9_finds_119 : decode cX9_finds 119 = .ok (.iload_n 3, 1) := by decide +kernel
theorem dX9_finds_120 : decode cX9_finds 120 = .ok (.laload, 1) := by decide +kernel
theorem dX9_finds_121 : decode cX9_finds 121 = .ok (.aload_n 0, 1) := by decide +kernel
theorem dX9_finds_122 : decode cX9_finds 122 = .ok (.getfield 74, 3) := by decide +kernel
theorem dX9_finds_125 : decode cX9_finds 125 = .ok (.iload 4, 2) := by decide +kernel
theorem dX9_finds_127 : decode cX9_finds 127 = .ok (.laload, 1) := by decide +kernel
theorem dX9_finds_128 : decode cX9_finds 128 = .ok (.lmul, 1) := by decide +kernel
theorem dX9_finds_129 : decode cX9_finds 129 = .ok (.lload 5, 2) := by decide +kernel
theorem dX9_finds_131 : decode cX9_finds 131 = .ok (.aload_n 0, 1) := by decide +kernel
theorem dX9_finds_132 : decode cX9_finds 132 = .ok (.getfield 70, 3) := by decide +kernel
theorem dX9_finds_135 : decode cX9_finds 135 = .ok (.iload 4, 2) := by decide +kernel
theorem dX9_finds_137 : decode cX9_finds 137 = .ok (.laload, 1) := by decide +kernel
theorem dX9_finds_138 : decode cX9_finds 138 = .ok (.lmul, 1) := by decide +kernel
theorem dX9_finds_139 : decode cX9_finds 139 = .ok (.aload_n 0, 1) := by decide +kernel
theorem dX9_finds_140 : decode cX9_finds 140 = .ok (.getfield 74, 3) := by decide +kernel
theorem dX9_finds_143 : decode cX9_finds 143 = .ok (.iload_n 3, 1) := by decide +kernel
theorem dX9_finds_144 : decode cX9_finds 144 = .ok (.laload, 1) := by decide +kernel
theorem dX9_finds_145 : decode cX9_finds 145 = .ok (.lmul, 1) := by decide +kernel
theorem dX9_finds_146 : decode cX9_finds 146 = .ok (.lcmp, 1) := by decide +kernel
theorem dX9_finds_147 : decode cX9_finds 147 = .ok (.ifCond .ne 7, 3) := by decide +kernel
theorem dX9_finds_150 : decode cX9_finds 150 = .ok (.iconst 1, 1) := by decide +kernel
theorem dX9_finds_151 : decode cX9_finds 151 = .ok (.goto 4, 3) := by decide +kernel
theorem dX9_finds_154 : decode cX9_finds 154 = .ok (.iconst 0, 1) := by decide +kernel
theorem dX9_finds_155 : decode cX9_finds 155 = .ok (.istore 7, 2) := by decide +kernel
theorem dX9_finds_157 : decode cX9_finds 157 = .ok (.aload_n 0, 1) := by decide +kernel
theorem dX9_finds_158 : decode cX9_finds 158 = .ok (.iload 7, 2) := by decide +kernel
theorem dX9_finds_160 : decode cX9_finds 160 = .ok (.ifCond .ne 15, 3) := by decide +kernel
theorem dX9_finds_163 : decode cX9_finds 163 = .ok (.aload_n 0, 1) := by decide +kernel
theorem dX9_finds_164 : decode cX9_finds 164 = .ok (.getfield 284, 3) := by decide +kernel
theorem dX9_finds_167 : decode cX9_finds 167 = .ok (.iconst (-1), 1) := by decide +kernel
theorem dX9_finds_168 : decode cX9_finds 168 = .ok (.if_icmp .ne 7, 3) := by decide +kernel
theorem dX9_finds_171 : decode cX9_finds 171 = .ok (.iload_n 2, 1) := by decide +kernel
theorem dX9_finds_172 : decode cX9_finds 172 = .ok (.goto 7, 3) := by decide +kernel
theorem dX9_finds_175 : decode cX9_finds 175 = .ok (.aload_n 0, 1) := by decide +kernel
theorem dX9_finds_176 : decode cX9_finds 176 = .ok (.getfield 284, 3) := by decide +kernel
theorem dX9_finds_179 : decode cX9_finds 179 = .ok (.putfield 284, 3) := by decide +kernel
theorem dX9_finds_182 : decode cX9_finds 182 = .ok (.goto 59, 3) := by decide +kernel
theorem dX9_finds_185 : decode cX9_finds 185 = .ok (.iload_n 1, 1) := by decide +kernel
theorem dX9_finds_186 : decode cX9_finds 186 = .ok (.iload_n 2, 1) := by decide +kernel
theorem dX9_finds_187 : decode cX9_finds 187 = .ok (.invokestatic 287, 3) := by decide +kernel
theorem dX9_finds_190 : decode cX9_finds 190 = .ok (.ifCond .ne 51, 3) := by decide +kernel
theorem dX9_finds_193 : decode cX9_finds 193 = .ok (.aload_n 0, 1) := by decide +kernel
theorem dX9_finds_194 : decode cX9_finds 194 = .ok (.aload_n 0, 1) := by decide +kernel
theorem dX9_finds_195 : decode cX9_finds 195 = .ok (.getfield 67, 3) := by decide +kernel
theorem dX9_finds_198 : decode cX9_finds 198 = .ok (.iload_n 3, 1) := by decide +kernel
theorem dX9_finds_199 : decode cX9_finds 199 = .ok (.iaload, 1) := by decide +kernel
theorem dX9_finds_200 : decode cX9_finds 200 = .ok (.aload_n 0, 1) := by decide +kernel
theorem dX9_finds_201 : decode cX9_finds 201 = .ok (.getfield 67, 3) := by decide +kernel
theorem dX9_finds_204 : decode cX9_finds 204 = .ok (.iload 4, 2) := by decide +kernel
theorem dX9_finds_206 : decode cX9_finds 206 = .ok (.iaload, 1) := by decide +kernel
theorem dX9_finds_207 : decode cX9_finds 207 = .ok (.lload 5, 2) := by decide +kernel
theorem dX9_finds_209 : decode cX9_finds 209 = .ok (.aload_n 0, 1) := by decide +kernel
theorem dX9_finds_210 : decode cX9_finds 210 = .ok (.getfield 70, 3) := by decide +kernel
theorem dX9_finds_213 : decode cX9_finds 213 = .ok (.iload 4, 2) := by decide +kernel
theorem dX9_finds_215 : decode cX9_finds 215 = .ok (.laload, 1) := by decide +kernel
theorem dX9_finds_216 : decode cX9_finds 216 = .ok (.lmul, 1) := by decide +kernel
theorem dX9_finds_217 : decode cX9_finds 217 = .ok (.aload_n 0, 1) := by decide +kernel
theorem dX9_finds_218 : decode cX9_finds 218 = .ok (.getfield 74, 3) := by decide +kernel
theorem dX9_finds_221 : decode cX9_finds 221 = .ok (.iload_n 3, 1) := by decide +kernel
theorem dX9_finds_222 : decode cX9_finds 222 = .ok (.laload, 1) := by decide +kernel
theorem dX9_finds_223 : decode cX9_finds 223 = .ok (.lmul, 1) := by decide +kernel
theorem dX9_finds_224 : decode cX9_finds 224 = .ok (.aload_n 0, 1) := by decide +kernel
theorem dX9_finds_225 : decode cX9_finds 225 = .ok (.getfield 74, 3) := by decide +kernel
theorem dX9_finds_228 : decode cX9_finds 228 = .ok (.iload 4, 2) := by decide +kernel
theorem dX9_finds_230 : decode cX9_finds 230 = .ok (.laload, 1) := by decide +kernel
theorem dX9_finds_231 : decode cX9_finds 231 = .ok (.aload_n 0, 1) := by decide +kernel
theorem dX9_finds_232 : decode cX9_finds 232 = .ok (.getfield 70, 3) := by decide +kernel
theorem dX9_finds_235 : decode cX9_finds 235 = .ok (.iload_n 3, 1) := by decide +kernel
theorem dX9_finds_236 : decode cX9_finds 236 = .ok (.laload, 1) := by decide +kernel
theorem dX9_finds_237 : decode cX9_finds 237 = .ok (.lmul, 1) := by decide +kernel
theorem dX9_finds_238 : decode cX9_finds 238 = .ok (.invokevirtual 290, 3) := by decide +kernel
theorem dX9_finds_241 : decode cX9_finds 241 = .ok (.iinc 2 1, 3) := by decide +kernel
theorem dX9_finds_244 : decode cX9_finds 244 = .ok (.goto (-202), 3) := by decide +kernel
theorem dX9_finds_247 : decode cX9_finds 247 = .ok (.aload_n 0, 1) := by decide +kernel
theorem dX9_finds_248 : decode cX9_finds 248 = .ok (.getfield 284, 3) := by decide +kernel
theorem dX9_finds_251 : decode cX9_finds 251 = .ok (.iconst (-1), 1) := by decide +kernel
theorem dX9_finds_252 : decode cX9_finds 252 = .ok (.if_icmp .ne 7, 3) := by decide +kernel
theorem dX9_finds_255 : decode cX9_finds 255 = .ok (.iconst 1, 1) := by decide +kernel
theorem dX9_finds_256 : decode cX9_finds 256 = .ok (.goto 4, 3) := by decide +kernel
theorem dX9_finds_259 : decode cX9_finds 259 = .ok (.iconst 0, 1) := by decide +kernel
theorem dX9_finds_260 : decode cX9_finds 260 = .ok (.ireturn, 1) := by decide +kernel
theorem dX9_worthOf_0 : decode cX9_worthOf 0 = .ok (.aload_n 0, 1) := by decide +kernel
theorem dX9_worthOf_1 : decode cX9_worthOf 1 = .ok (.iconst 0, 1) := by decide +kernel
theorem dX9_worthOf_2 : decode cX9_worthOf 2 = .ok (.invokevirtual 294, 3) := by decide +kernel
theorem dX9_worthOf_5 : decode cX9_worthOf 5 = .ok (.pop, 1) := by decide +kernel
theorem dX9_worthOf_6 : decode cX9_worthOf 6 = .ok (.aload_n 0, 1) := by decide +kernel
theorem dX9_worthOf_7 : decode cX9_worthOf 7 = .ok (.getfield 67, 3) := by decide +kernel
theorem dX9_worthOf_10 : decode cX9_worthOf 10 = .ok (.iload_n 1, 1) := by decide +kernel
theorem dX9_worthOf_11 : decode cX9_worthOf 11 = .ok (.iaload, 1) := by decide +kernel
theorem dX9_worthOf_12 : decode cX9_worthOf 12 = .ok (.aload_n 0, 1) := by decide +kernel
theorem dX9_worthOf_13 : decode cX9_worthOf 13 = .ok (.getfield 67, 3) := by decide +kernel
theorem dX9_worthOf_16 : decode cX9_worthOf 16 = .ok (.iload_n 2, 1) := by decide +kernel
theorem dX9_worthOf_17 : decode cX9_worthOf 17 = .ok (.iaload, 1) := by decide +kernel
theorem dX9_worthOf_18 : decode cX9_worthOf 18 = .ok (.if_icmp .eq 9, 3) := by decide +kernel
theorem dX9_worthOf_21 : decode cX9_worthOf 21 = .ok (.bipush (-3), 2) := by decide +kernel
theorem dX9_worthOf_23 : decode cX9_worthOf 23 = .ok (.invokestatic 297, 3) := by decide +kernel
theorem dX9_worthOf_26 : decode cX9_worthOf 26 = .ok (.lreturn, 1) := by decide +kernel
theorem dX9_worthOf_27 : decode cX9_worthOf 27 = .ok (.aload_n 0, 1) := by decide +kernel
theorem dX9_worthOf_28 : decode cX9_worthOf 28 = .ok (.getfield 70, 3) := by decide +kernel
theorem dX9_worthOf_31 : decode cX9_worthOf 31 = .ok (.iload_n 1, 1) := by decide +kernel
theorem dX9_worthOf_32 : decode cX9_worthOf 32 = .ok (.laload, 1) := by decide +kernel
theorem dX9_worthOf_33 : decode cX9_worthOf 33 = .ok (.aload_n 0, 1) := by decide +kernel
theorem dX9_worthOf_34 : decode cX9_worthOf 34 = .ok (.getfield 74, 3) := by decide +kernel
theorem dX9_worthOf_37 : decode cX9_worthOf 37 = .ok (.iload_n 2, 1) := by decide +kernel
theorem dX9_worthOf_38 : decode cX9_worthOf 38 = .ok (.laload, 1) := by decide +kernel
theorem dX9_worthOf_39 : decode cX9_worthOf 39 = .ok (.lmul, 1) := by decide +kernel
theorem dX9_worthOf_40 : decode cX9_worthOf 40 = .ok (.lstore 4, 2) := by decide +kernel
theorem dX9_worthOf_42 : decode cX9_worthOf 42 = .ok (.aload_n 0, 1) := by decide +kernel
theorem dX9_worthOf_43 : decode cX9_worthOf 43 = .ok (.getfield 74, 3) := by decide +kernel
theorem dX9_worthOf_46 : decode cX9_worthOf 46 = .ok (.iload_n 1, 1) := by decide +kernel
theorem dX9_worthOf_47 : decode cX9_worthOf 47 = .ok (.laload, 1) := by decide +kernel
theorem dX9_worthOf_48 : decode cX9_worthOf 48 = .ok (.aload_n 0, 1) := by decide +kernel
theorem dX9_worthOf_49 : decode cX9_worthOf 49 = .ok (.getfield 70, 3) := by decide +kernel
theorem dX9_worthOf_52 : decode cX9_worthOf 52 = .ok (.iload_n 2, 1) := by decide +kernel
theorem dX9_worthOf_53 : decode cX9_worthOf 53 = .ok (.laload, 1) := by decide +kernel
theorem dX9_worthOf_54 : decode cX9_worthOf 54 = .ok (.lmul, 1) := by decide +kernel
theorem dX9_worthOf_55 : decode cX9_worthOf 55 = .ok (.lstore 6, 2) := by decide +kernel
theorem dX9_worthOf_57 : decode cX9_worthOf 57 = .ok (.iload_n 3, 1) := by decide +kernel
theorem dX9_worthOf_58 : decode cX9_worthOf 58 = .ok (.ifCond .ne 8, 3) := by decide +kernel
theorem dX9_worthOf_61 : decode cX9_worthOf 61 = .ok (.lload 4, 2) := by decide +kernel
theorem dX9_worthOf_63 : decode cX9_worthOf 63 = .ok (.goto 5, 3) := by decide +kernel
theorem dX9_worthOf_66 : decode cX9_worthOf 66 = .ok (.lload 6, 2) := by decide +kernel
theorem dX9_worthOf_68 : decode cX9_worthOf 68 = .ok (.lload 4, 2) := by decide +kernel
theorem dX9_worthOf_70 : decode cX9_worthOf 70 = .ok (.lload 6, 2) := by decide +kernel
theorem dX9_worthOf_72 : decode cX9_worthOf 72 = .ok (.invokestatic 280, 3) := by decide +kernel
theorem dX9_worthOf_75 : decode cX9_worthOf 75 = .ok (.ldiv, 1) := by decide +kernel
theorem dX9_worthOf_76 : decode cX9_worthOf 76 = .ok (.lreturn, 1) := by decide +kernel
theorem dX9_worth_0 : decode cX9_worth 0 = .ok (.aload_n 0, 1) := by decide +kernel
theorem dX9_worth_1 : decode cX9_worth 1 = .ok (.invokevirtual 151, 3) := by decide +kernel
theorem dX9_worth_4 : decode cX9_worth 4 = .ok (.iload_n 1, 1) := by decide +kernel
theorem dX9_worth_5 : decode cX9_worth 5 = .ok (.i2l, 1) := by decide +kernel
theorem dX9_worth_6 : decode cX9_worth 6 = .ok (.lconst 0, 1) := by decide +kernel
theorem dX9_worth_7 : decode cX9_worth 7 = .ok (.ldc2_w 301, 3) := by decide +kernel
theorem dX9_worth_10 : decode cX9_worth 10 = .ok (.invokestatic 88, 3) := by decide +kernel
theorem dX9_worth_13 : decode cX9_worth 13 = .ok (.ifCond .eq 37, 3) := by decide +kernel
theorem dX9_worth_16 : decode cX9_worth 16 = .ok (.iload_n 2, 1) := by decide +kernel
theorem dX9_worth_17 : decode cX9_worth 17 = .ok (.i2l, 1) := by decide +kernel
theorem dX9_worth_18 : decode cX9_worth 18 = .ok (.lconst 0, 1) := by decide +kernel
theorem dX9_worth_19 : decode cX9_worth 19 = .ok (.ldc2_w 301, 3) := by decide +kernel
theorem dX9_worth_22 : decode cX9_worth 22 = .ok (.invokestatic 88, 3) := by decide +kernel
theorem dX9_worth_25 : decode cX9_worth 25 = .ok (.ifCond .eq 25, 3) := by decide +kernel
theorem dX9_worth_28 : decode cX9_worth 28 = .ok (.iload_n 1, 1) := by decide +kernel
theorem dX9_worth_29 : decode cX9_worth 29 = .ok (.iload_n 2, 1) := by decide +kernel
theorem dX9_worth_30 : decode cX9_worth 30 = .ok (.if_icmp .eq 20, 3) := by decide +kernel
theorem dX9_worth_33 : decode cX9_worth 33 = .ok (.iload_n 3, 1) := by decide +kernel
theorem dX9_worth_34 : decode cX9_worth 34 = .ok (.invokestatic 157, 3) := by decide +kernel
theorem dX9_worth_37 : decode cX9_worth 37 = .ok (.ifCond .eq 13, 3) := by decide +kernel
theorem dX9_worth_40 : decode cX9_worth 40 = .ok (.aload_n 0, 1) := by decide +kernel
theorem dX9_worth_41 : decode cX9_worth 41 = .ok (.iload_n 1, 1) := by decide +kernel
theorem dX9_worth_42 : decode cX9_worth 42 = .ok (.iload_n 2, 1) := by decide +kernel
theorem dX9_worth_43 : decode cX9_worth 43 = .ok (.iload_n 3, 1) := by decide +kernel
theorem dX9_worth_44 : decode cX9_worth 44 = .ok (.invokevirtual 303, 3) := by decide +kernel
theorem dX9_worth_47 : decode cX9_worth 47 = .ok (.goto 8, 3) := by decide +kernel
theorem dX9_worth_50 : decode cX9_worth 50 = .ok (.bipush (-2), 2) := by decide +kernel
theorem dX9_worth_52 : decode cX9_worth 52 = .ok (.invokestatic 297, 3) := by decide +kernel
theorem dX9_worth_55 : decode cX9_worth 55 = .ok (.lreturn, 1) := by decide +kernel
theorem dX9_clash_0 : decode cX9_clash 0 = .ok (.aload_n 0, 1) := by decide +kernel
theorem dX9_clash_1 : decode cX9_clash 1 = .ok (.invokevirtual 151, 3) := by decide +kernel
theorem dX9_clash_4 : decode cX9_clash 4 = .ok (.aload_n 0, 1) := by decide +kernel
theorem dX9_clash_5 : decode cX9_clash 5 = .ok (.iconst 0, 1) := by decide +kernel
theorem dX9_clash_6 : decode cX9_clash 6 = .ok (.invokevirtual 294, 3) := by decide +kernel
theorem dX9_clash_9 : decode cX9_clash 9 = .ok (.pop, 1) := by decide +kernel
theorem dX9_clash_10 : decode cX9_clash 10 = .ok (.aload_n 0, 1) := by decide +kernel
theorem dX9_clash_11 : decode cX9_clash 11 = .ok (.getfield 284, 3) := by decide +kernel
theorem dX9_clash_14 : decode cX9_clash 14 = .ok (.ireturn, 1) := by decide +kernel
theorem dX9_dropNow_0 : decode cX9_dropNow 0 = .ok (.iconst (-1), 1) := by decide +kernel
theorem dX9_dropNow_1 : decode cX9_dropNow 1 = .ok (.istore_n 1, 1) := by decide +kernel
theorem dX9_dropNow_2 : decode cX9_dropNow 2 = .ok (.iconst 0, 1) := by decide +kernel
theorem dX9_dropNow_3 : decode cX9_dropNow 3 = .ok (.istore_n 2, 1) := by decide +kernel
theorem dX9_dropNow_4 : decode cX9_dropNow 4 = .ok (.iload_n 2, 1) := by decide +kernel
theorem dX9_dropNow_5 : decode cX9_dropNow 5 = .ok (.iconst 1, 1) := by decide +kernel
theorem dX9_dropNow_6 : decode cX9_dropNow 6 = .ok (.aload_n 0, 1) := by decide +kernel
theorem dX9_dropNow_7 : decode cX9_dropNow 7 = .ok (.getfield 28, 3) := by decide +kernel
theorem dX9_dropNow_10 : decode cX9_dropNow 10 = .ok (.iconst 2, 1) := by decide +kernel
theorem dX9_dropNow_11 : decode cX9_dropNow 11 = .ok (.iaload, 1) := by decide +kernel
theorem dX9_dropNow_12 : decode cX9_dropNow 12 = .ok (.ishl, 1) := by decide +kernel
theorem dX9_dropNow_13 : decode cX9_dropNow 13 = .ok (.if_icmp .ge 49, 3) := by decide +kernel
theorem dX9_dropNow_16 : decode cX9_dropNow 16 = .ok (.iload_n 1, 1) := by decide +kernel
theorem dX9_dropNow_17 : decode cX9_dropNow 17 = .ok (.iconst (-1), 1) := by decide +kernel
theorem dX9_dropNow_18 : decode cX9_dropNow 18 = .ok (.if_icmp .eq 14, 3) := by decide +kernel
theorem dX9_dropNow_21 : decode cX9_dropNow 21 = .ok (.iload_n 2, 1) := by decide +kernel
theorem dX9_dropNow_22 : decode cX9_dropNow 22 = .ok (.invokestatic 307, 3) := by decide +kernel
theorem dX9_dropNow_25 : decode cX9_dropNow 25 = .ok (.iload_n 1, 1) := by decide +kernel
theorem dX9_dropNow_26 : decode cX9_dropNow 26 = .ok (.invokestatic 307, 3) := by decide +kernel
theorem dX9_dropNow_29 : decode cX9_dropNow 29 = .ok (.if_icmp .ge 7, 3) := by decide +kernel
theorem dX9_dropNow_32 : decode cX9_dropNow 32 = .ok (.iconst 1, 1) := by decide +kernel
theorem dX9_dropNow_33 : decode cX9_dropNow 33 = .ok (.goto 4, 3) := by decide +kernel
theorem dX9_dropNow_36 : decode cX9_dropNow 36 = .ok (.iconst 0, 1) := by decide +kernel
theorem dX9_dropNow_37 : decode cX9_dropNow 37 = .ok (.istore_n 3, 1) := by decide +kernel
theorem dX9_dropNow_38 : decode cX9_dropNow 38 = .ok (.iload_n 3, 1) := by decide +kernel
theorem dX9_dropNow_39 : decode cX9_dropNow 39 = .ok (.ifCond .eq 15, 3) := by decide +kernel
theorem dX9_dropNow_42 : decode cX9_dropNow 42 = .ok (.aload_n 0, 1) := by decide +kernel
theorem dX9_dropNow_43 : decode cX9_dropNow 43 = .ok (.iload_n 2, 1) := by decide +kernel
theorem dX9_dropNow_44 : decode cX9_dropNow 44 = .ok (.invokevirtual 294, 3) := by decide +kernel
theorem dX9_dropNow_47 : decode cX9_dropNow 47 = .ok (.ifCond .eq 7, 3) := by decide +kernel
theorem dX9_dropNow_50 : decode cX9_dropNow 50 = .ok (.iload_n 2, 1) := by decide +kernel
theorem dX9_dropNow_51 : decode cX9_dropNow 51 = .ok (.goto 4, 3) := by decide +kernel
theorem dX9_dropNow_54 : decode cX9_dropNow 54 = .ok (.iload_n 1, 1) := by decide +kernel
theorem dX9_dropNow_55 : decode cX9_dropNow 55 = .ok (.istore_n 1, 1) := by decide +kernel
theorem dX9_dropNow_56 : decode cX9_dropNow 56 = .ok (.iinc 2 1, 3) := by decide +kernel
theorem dX9_dropNow_59 : decode cX9_dropNow 59 = .ok (.goto (-55), 3) := by decide +kernel
theorem dX9_dropNow_62 : decode cX9_dropNow 62 = .ok (.iload_n 1, 1) := by decide +kernel
theorem dX9_dropNow_63 : decode cX9_dropNow 63 = .ok (.ireturn, 1) := by decide +kernel
theorem dX9_drop_0 : decode cX9_drop 0 = .ok (.aload_n 0, 1) := by decide +kernel
theorem dX9_drop_1 : decode cX9_drop 1 = .ok (.invokevirtual 151, 3) := by decide +kernel
theorem dX9_drop_4 : decode cX9_drop 4 = .ok (.aload_n 0, 1) := by decide +kernel
theorem dX9_drop_5 : decode cX9_drop 5 = .ok (.invokevirtual 310, 3) := by decide +kernel
theorem dX9_drop_8 : decode cX9_drop 8 = .ok (.ireturn, 1) := by decide +kernel
theorem dX9_rate_0 : decode cX9_rate 0 = .ok (.iload_n 1, 1) := by decide +kernel
theorem dX9_rate_1 : decode cX9_rate 1 = .ok (.i2l, 1) := by decide +kernel
theorem dX9_rate_2 : decode cX9_rate 2 = .ok (.lconst 0, 1) := by decide +kernel
theorem dX9_rate_3 : decode cX9_rate 3 = .ok (.ldc2_w 96, 3) := by decide +kernel
theorem dX9_rate_6 : decode cX9_rate 6 = .ok (.invokestatic 88, 3) := by decide +kernel
theorem dX9_rate_9 : decode cX9_rate 9 = .ok (.ifCond .eq 45, 3) := by decide +kernel
theorem dX9_rate_12 : decode cX9_rate 12 = .ok (.iload_n 2, 1) := by decide +kernel
theorem dX9_rate_13 : decode cX9_rate 13 = .ok (.i2l, 1) := by decide +kernel
theorem dX9_rate_14 : decode cX9_rate 14 = .ok (.lconst 0, 1) := by decide +kernel
theorem dX9_rate_15 : decode cX9_rate 15 = .ok (.ldc2_w 96, 3) := by decide +kernel
theorem dX9_rate_18 : decode cX9_rate 18 = .ok (.invokestatic 88, 3) := by decide +kernel
theorem dX9_rate_21 : decode cX9_rate 21 = .ok (.ifCond .eq 33, 3) := by decide +kernel
theorem dX9_rate_24 : decode cX9_rate 24 = .ok (.iload_n 1, 1) := by decide +kernel
theorem dX9_rate_25 : decode cX9_rate 25 = .ok (.iload_n 2, 1) := by decide +kernel
theorem dX9_rate_26 : decode cX9_rate 26 = .ok (.if_icmp .eq 28, 3) := by decide +kernel
theorem dX9_rate_29 : decode cX9_rate 29 = .ok (.iload_n 3, 1) := by decide +kernel
theorem dX9_rate_30 : decode cX9_rate 30 = .ok (.i2l, 1) := by decide +kernel
theorem dX9_rate_31 : decode cX9_rate 31 = .ok (.lconst 1, 1) := by decide +kernel
theorem dX9_rate_32 : decode cX9_rate 32 = .ok (.ldc2_w 147, 3) := by decide +kernel
theorem dX9_rate_35 : decode cX9_rate 35 = .ok (.invokestatic 88, 3) := by decide +kernel
theorem dX9_rate_38 : decode cX9_rate 38 = .ok (.ifCond .eq 16, 3) := by decide +kernel
theorem dX9_rate_41 : decode cX9_rate 41 = .ok (.iload 4, 2) := by decide +kernel
theorem dX9_rate_43 : decode cX9_rate 43 = .ok (.i2l, 1) := by decide +kernel
theorem dX9_rate_44 : decode cX9_rate 44 = .ok (.lconst 1, 1) := by decide +kernel
theorem dX9_rate_45 : decode cX9_rate 45 = .ok (.ldc2_w 147, 3) := by decide +kernel
theorem dX9_rate_48 : decode cX9_rate 48 = .ok (.invokestatic 88, 3) := by decide +kernel
theorem dX9_rate_51 : decode cX9_rate 51 = .ok (.ifCond .ne 6, 3) := by decide +kernel
theorem dX9_rate_54 : decode cX9_rate 54 = .ok (.bipush (-2), 2) := by decide +kernel
theorem dX9_rate_56 : decode cX9_rate 56 = .ok (.ireturn, 1) := by decide +kernel
theorem dX9_rate_57 : decode cX9_rate 57 = .ok (.iconst 2, 1) := by decide +kernel
theorem dX9_rate_58 : decode cX9_rate 58 = .ok (.iconst 4, 1) := by decide +kernel
theorem dX9_rate_59 : decode cX9_rate 59 = .ok (.iload_n 1, 1) := by decide +kernel
theorem dX9_rate_60 : decode cX9_rate 60 = .ok (.imul, 1) := by decide +kernel
theorem dX9_rate_61 : decode cX9_rate 61 = .ok (.iload_n 2, 1) := by decide +kernel
theorem dX9_rate_62 : decode cX9_rate 62 = .ok (.iadd, 1) := by decide +kernel
theorem dX9_rate_63 : decode cX9_rate 63 = .ok (.imul, 1) := by decide +kernel
theorem dX9_rate_64 : decode cX9_rate 64 = .ok (.istore 5, 2) := by decide +kernel
theorem dX9_rate_66 : decode cX9_rate 66 = .ok (.bipush 10, 2) := by decide +kernel
theorem dX9_rate_68 : decode cX9_rate 68 = .ok (.aload_n 0, 1) := by decide +kernel
theorem dX9_rate_69 : decode cX9_rate 69 = .ok (.getfield 77, 3) := by decide +kernel
theorem dX9_rate_72 : decode cX9_rate 72 = .ok (.iload 5, 2) := by decide +kernel
theorem dX9_rate_74 : decode cX9_rate 74 = .ok (.iaload, 1) := by decide +kernel
theorem dX9_rate_75 : decode cX9_rate 75 = .ok (.imul, 1) := by decide +kernel
theorem dX9_rate_76 : decode cX9_rate 76 = .ok (.aload_n 0, 1) := by decide +kernel
theorem dX9_rate_77 : decode cX9_rate 77 = .ok (.getfield 77, 3) := by decide +kernel
theorem dX9_rate_80 : decode cX9_rate 80 = .ok (.iload 5, 2) := by decide +kernel
theorem dX9_rate_82 : decode cX9_rate 82 = .ok (.iconst 1, 1) := by decide +kernel
theorem dX9_rate_83 : decode cX9_rate 83 = .ok (.iadd, 1) := by decide +kernel
theorem dX9_rate_84 : decode cX9_rate 84 = .ok (.iaload, 1) := by decide +kernel
theorem dX9_rate_85 : decode cX9_rate 85 = .ok (.iadd, 1) := by decide +kernel
theorem dX9_rate_86 : decode cX9_rate 86 = .ok (.istore 6, 2) := by decide +kernel
theorem dX9_rate_88 : decode cX9_rate 88 = .ok (.aload_n 0, 1) := by decide +kernel
theorem dX9_rate_89 : decode cX9_rate 89 = .ok (.getfield 77, 3) := by decide +kernel
theorem dX9_rate_92 : decode cX9_rate 92 = .ok (.iload 5, 2) := by decide +kernel
theorem dX9_rate_94 : decode cX9_rate 94 = .ok (.iload_n 3, 1) := by decide +kernel
theorem dX9_rate_95 : decode cX9_rate 95 = .ok (.iastore, 1) := by decide +kernel
theorem dX9_rate_96 : decode cX9_rate 96 = .ok (.aload_n 0, 1) := by decide +kernel
theorem dX9_rate_97 : decode cX9_rate 97 = .ok (.getfield 77, 3) := by decide +kernel
theorem dX9_rate_100 : decode cX9_rate 100 = .ok (.iload 5, 2) := by decide +kernel
theorem dX9_rate_102 : decode cX9_rate 102 = .ok (.iconst 1, 1) := by decide +kernel
theorem dX9_rate_103 : decode cX9_rate 103 = .ok (.iadd, 1) := by decide +kernel
theorem dX9_rate_104 : decode cX9_rate 104 = .ok (.iload 4, 2) := by decide +kernel
theorem dX9_rate_106 : decode cX9_rate 106 = .ok (.iastore, 1) := by decide +kernel
theorem dX9_rate_107 : decode cX9_rate 107 = .ok (.iload 6, 2) := by decide +kernel
theorem dX9_rate_109 : decode cX9_rate 109 = .ok (.ireturn, 1) := by decide +kernel
theorem dX9_digit_0 : decode cX9_digit 0 = .ok (.iload_n 0, 1) := by decide +kernel
theorem dX9_digit_1 : decode cX9_digit 1 = .ok (.iconst 2, 1) := by decide +kernel
theorem dX9_digit_2 : decode cX9_digit 2 = .ok (.iload_n 1, 1) := by decide +kernel
theorem dX9_digit_3 : decode cX9_digit 3 = .ok (.iconst 1, 1) := by decide +kernel
theorem dX9_digit_4 : decode cX9_digit 4 = .ok (.isub, 1) := by decide +kernel
theorem dX9_digit_5 : decode cX9_digit 5 = .ok (.iload_n 2, 1) := by decide +kernel
theorem dX9_digit_6 : decode cX9_digit 6 = .ok (.isub, 1) := by decide +kernel
theorem dX9_digit_7 : decode cX9_digit 7 = .ok (.imul, 1) := by decide +kernel
theorem dX9_digit_8 : decode cX9_digit 8 = .ok (.ishr, 1) := by decide +kernel
theorem dX9_digit_9 : decode cX9_digit 9 = .ok (.iconst 3, 1) := by decide +kernel
theorem dX9_digit_10 : decode cX9_digit 10 = .ok (.iand, 1) := by decide +kernel
theorem dX9_digit_11 : decode cX9_digit 11 = .ok (.ireturn, 1) := by decide +kernel
theorem dX9_isTour_0 : decode cX9_isTour 0 = .ok (.iconst 0, 1) := by decide +kernel
theorem dX9_isTour_1 : decode cX9_isTour 1 = .ok (.istore_n 2, 1) := by decide +kernel
theorem dX9_isTour_2 : decode cX9_isTour 2 = .ok (.iconst 1, 1) := by decide +kernel
theorem dX9_isTour_3 : decode cX9_isTour 3 = .ok (.istore_n 3, 1) := by decide +kernel
theorem dX9_isTour_4 : decode cX9_isTour 4 = .ok (.iconst 0, 1) := by decide +kernel
theorem dX9_isTour_5 : decode cX9_isTour 5 = .ok (.istore 4, 2) := by decide +kernel
theorem dX9_isTour_7 : decode cX9_isTour 7 = .ok (.iload 4, 2) := by decide +kernel
theorem dX9_isTour_9 : decode cX9_isTour 9 = .ok (.iload_n 1, 1) := by decide +kernel
theorem dX9_isTour_10 : decode cX9_isTour 10 = .ok (.if_icmp .ge 55, 3) := by decide +kernel
theorem dX9_isTour_13 : decode cX9_isTour 13 = .ok (.iload_n 0, 1) := by decide +kernel
theorem dX9_isTour_14 : decode cX9_isTour 14 = .ok (.iload_n 1, 1) := by decide +kernel
theorem dX9_isTour_15 : decode cX9_isTour 15 = .ok (.iload 4, 2) := by decide +kernel
theorem dX9_isTour_17 : decode cX9_isTour 17 = .ok (.invokestatic 313, 3) := by decide +kernel
theorem dX9_isTour_20 : decode cX9_isTour 20 = .ok (.istore 5, 2) := by decide +kernel
theorem dX9_isTour_22 : decode cX9_isTour 22 = .ok (.iload_n 3, 1) := by decide +kernel
theorem dX9_isTour_23 : decode cX9_isTour 23 = .ok (.ifCond .eq 27, 3) := by decide +kernel
theorem dX9_isTour_26 : decode cX9_isTour 26 = .ok (.iload_n 2, 1) := by decide +kernel
theorem dX9_isTour_27 : decode cX9_isTour 27 = .ok (.iload 5, 2) := by decide +kernel
theorem dX9_isTour_29 : decode cX9_isTour 29 = .ok (.invokestatic 287, 3) := by decide +kernel
theorem dX9_isTour_32 : decode cX9_isTour 32 = .ok (.ifCond .ne 18, 3) := by decide +kernel
theorem dX9_isTour_35 : decode cX9_isTour 35 = .ok (.iload 5, 2) := by decide +kernel
theorem dX9_isTour_37 : decode cX9_isTour 37 = .ok (.iload_n 0, 1) := by decide +kernel
theorem dX9_isTour_38 : decode cX9_isTour 38 = .ok (.iload_n 1, 1) := by decide +kernel
theorem dX9_isTour_39 : decode cX9_isTour 39 = .ok (.iconst 0, 1) := by decide +kernel
theorem dX9_isTour_40 : decode cX9_isTour 40 = .ok (.invokestatic 313, 3) := by decide +kernel
theorem dX9_isTour_43 : decode cX9_isTour 43 = .ok (.if_icmp .lt 7, 3) := by decide +kernel
theorem dX9_isTour_46 : decode cX9_isTour 46 = .ok (.iconst 1, 1) := by decide +kernel
theorem dX9_isTour_47 : decode cX9_isTour 47 = .ok (.goto 4, 3) := by decide +kernel
theorem dX9_isTour_50 : decode cX9_isTour 50 = .ok (.iconst 0, 1) := by decide +kernel
theorem dX9_isTour_51 : decode cX9_isTour 51 = .ok (.istore_n 3, 1) := by decide +kernel
theorem dX9_isTour_52 : decode cX9_isTour 52 = .ok (.iload_n 2, 1) := by decide +kernel
theorem dX9_isTour_53 : decode cX9_isTour 53 = .ok (.iconst 1, 1) := by decide +kernel
theorem dX9_isTour_54 : decode cX9_isTour 54 = .ok (.iload 5, 2) := by decide +kernel
theorem dX9_isTour_56 : decode cX9_isTour 56 = .ok (.ishl, 1) := by decide +kernel
theorem dX9_isTour_57 : decode cX9_isTour 57 = .ok (.ior, 1) := by decide +kernel
theorem dX9_isTour_58 : decode cX9_isTour 58 = .ok (.istore_n 2, 1) := by decide +kernel
theorem dX9_isTour_59 : decode cX9_isTour 59 = .ok (.iinc 4 1, 3) := by decide +kernel
theorem dX9_isTour_62 : decode cX9_isTour 62 = .ok (.goto (-55), 3) := by decide +kernel
theorem dX9_isTour_65 : decode cX9_isTour 65 = .ok (.iload_n 3, 1) := by decide +kernel
theorem dX9_isTour_66 : decode cX9_isTour 66 = .ok (.ireturn, 1) := by decide +kernel
theorem dX9_findRound_0 : decode cX9_findRound 0 = .ok (.aload_n 0, 1) := by decide +kernel
theorem dX9_findRound_1 : decode cX9_findRound 1 = .ok (.iconst 0, 1) := by decide +kernel
theorem dX9_findRound_2 : decode cX9_findRound 2 = .ok (.putfield 316, 3) := by decide +kernel
theorem dX9_findRound_5 : decode cX9_findRound 5 = .ok (.aload_n 0, 1) := by decide +kernel
theorem dX9_findRound_6 : decode cX9_findRound 6 = .ok (.iconst 1, 1) := by decide +kernel
theorem dX9_findRound_7 : decode cX9_findRound 7 = .ok (.putfield 319, 3) := by decide +kernel
theorem dX9_findRound_10 : decode cX9_findRound 10 = .ok (.aload_n 0, 1) := by decide +kernel
theorem dX9_findRound_11 : decode cX9_findRound 11 = .ok (.iconst 1, 1) := by decide +kernel
theorem dX9_findRound_12 : decode cX9_findRound 12 = .ok (.putfield 322, 3) := by decide +kernel
theorem dX9_findRound_15 : decode cX9_findRound 15 = .ok (.iconst 2, 1) := by decide +kernel
theorem dX9_findRound_16 : decode cX9_findRound 16 = .ok (.istore_n 1, 1) := by decide +kernel
theorem dX9_findRound_17 : decode cX9_findRound 17 = .ok (.iload_n 1, 1) := by decide +kernel
theorem dX9_findRound_18 : decode cX9_findRound 18 = .ok (.iconst 5, 1) := by decide +kernel
theorem dX9_findRound_19 : decode cX9_findRound 19 = .ok (.if_icmp .ge 164, 3) := by decide +kernel
theorem dX9_findRound_22 : decode cX9_findRound 22 = .ok (.iconst 0, 1) := by decide +kernel
theorem dX9_findRound_23 : decode cX9_findRound 23 = .ok (.istore_n 2, 1) := by decide +kernel
theorem dX9_findRound_24 : decode cX9_findRound 24 = .ok (.iload_n 2, 1) := by decide +kernel
theorem dX9_findRound_25 : decode cX9_findRound 25 = .ok (.iconst 1, 1) := by decide +kernel
theorem dX9_findRound_26 : decode cX9_findRound 26 = .ok (.iconst 2, 1) := by decide +kernel
theorem dX9_findRound_27 : decode cX9_findRound 27 = .ok (.iload_n 1, 1) := by decide +kernel
theorem dX9_findRound_28 : decode cX9_findRound 28 = .ok (.imul, 1) := by decide +kernel
theorem dX9_findRound_29 : decode cX9_findRound 29 = .ok (.ishl, 1) := by decide +kernel
theorem dX9_findRound_30 : decode cX9_findRound 30 = .ok (.if_icmp .ge 147, 3) := by decide +kernel
theorem dX9_findRound_33 : decode cX9_findRound 33 = .ok (.iconst 1, 1) := by decide +kernel
theorem dX9_findRound_34 : decode cX9_findRound 34 = .ok (.istore_n 3, 1) := by decide +kernel
theorem dX9_findRound_35 : decode cX9_findRound 35 = .ok (.iconst 1, 1) := by decide +kernel
theorem dX9_findRound_36 : decode cX9_findRound 36 = .ok (.istore 4, 2) := by decide +kernel
theorem dX9_findRound_38 : decode cX9_findRound 38 = .ok (.iconst 0, 1) := by decide +kernel
theorem dX9_findRound_39 : decode cX9_findRound 39 = .ok (.istore 5, 2) := by decide +kernel
theorem dX9_findRound_41 : decode cX9_findRound 41 = .ok (.iload 5, 2) := by decide +kernel
theorem dX9_findRound_43 : decode cX9_findRound 43 = .ok (.iload_n 1, 1) := by decide +kernel
theorem dX9_findRound_44 : decode cX9_findRound 44 = .ok (.if_icmp .ge 58, 3) := by decide +kernel
theorem dX9_findRound_47 : decode cX9_findRound 47 = .ok (.iconst 2, 1) := by decide +kernel
theorem dX9_findRound_48 : decode cX9_findRound 48 = .ok (.iconst 4, 1) := by decide +kernel
theorem dX9_findRound_49 : decode cX9_findRound 49 = .ok (.iload_n 2, 1) := by decide +kernel
theorem dX9_findRound_50 : decode cX9_findRound 50 = .ok (.iload_n 1, 1) := by decide +kernel
theorem dX9_findRound_51 : decode cX9_findRound 51 = .ok (.iload 5, 2) := by decide +kernel
theorem dX9_findRound_53 : decode cX9_findRound 53 = .ok (.invokestatic 313, 3) := by decide +kernel
theorem dX9_findRound_56 : decode cX9_findRound 56 = .ok (.imul, 1) := by decide +kernel
theorem dX9_findRound_57 : decode cX9_findRound 57 = .ok (.iload_n 2, 1) := by decide +kernel
theorem dX9_findRound_58 : decode cX9_findRound 58 = .ok (.iload_n 1, 1) := by decide +kernel
theorem dX9_findRound_59 : decode cX9_findRound 59 = .ok (.iload 5, 2) := by decide +kernel
theorem dX9_findRound_61 : decode cX9_findRound 61 = .ok (.iconst 1, 1) := by decide +kernel
theorem dX9_findRound_62 : decode cX9_findRound 62 = .ok (.iadd, 1) := by decide +kernel
theorem dX9_findRound_63 : decode cX9_findRound 63 = .ok (.iload_n 1, 1) := by decide +kernel
theorem dX9_findRound_64 : decode cX9_findRound 64 = .ok (.irem, 1) := by decide +kernel
theorem dX9_findRound_65 : decode cX9_findRound 65 = .ok (.invokestatic 313, 3) := by decide +kernel
theorem dX9_findRound_68 : decode cX9_findRound 68 = .ok (.iadd, 1) := by decide +kernel
theorem dX9_findRound_69 : decode cX9_findRound 69 = .ok (.imul, 1) := by decide +kernel
theorem dX9_findRound_70 : decode cX9_findRound 70 = .ok (.istore 6, 2) := by decide +kernel
theorem dX9_findRound_72 : decode cX9_findRound 72 = .ok (.iload_n 3, 1) := by decide +kernel
theorem dX9_findRound_73 : decode cX9_findRound 73 = .ok (.aload_n 0, 1) := by decide +kernel
theorem dX9_findRound_74 : decode cX9_findRound 74 = .ok (.getfield 77, 3) := by decide +kernel
theorem dX9_findRound_77 : decode cX9_findRound 77 = .ok (.iload 6, 2) := by decide +kernel
theorem dX9_findRound_79 : decode cX9_findRound 79 = .ok (.iaload, 1) := by decide +kernel
theorem dX9_findRound_80 : decode cX9_findRound 80 = .ok (.imul, 1) := by decide +kernel
theorem dX9_findRound_81 : decode cX9_findRound 81 = .ok (.istore_n 3, 1) := by decide +kernel
theorem dX9_findRound_82 : decode cX9_findRound 82 = .ok (.iload 4, 2) := by decide +kernel
theorem dX9_findRound_84 : decode cX9_findRound 84 = .ok (.aload_n 0, 1) := by decide +kernel
theorem dX9_findRound_85 : decode cX9_findRound 85 = .ok (.getfield 77, 3) := by decide +kernel
theorem dX9_findRound_88 : decode cX9_findRound 88 = .ok (.iload 6, 2) := by decide +kernel
theorem dX9_findRound_90 : decode cX9_findRound 90 = .ok (.iconst 1, 1) := by decide +kernel
theorem dX9_findRound_91 : decode cX9_findRound 91 = .ok (.iadd, 1) := by decide +kernel
theorem dX9_findRound_92 : decode cX9_findRound 92 = .ok (.iaload, 1) := by decide +kernel
theorem dX9_findRound_93 : decode cX9_findRound 93 = .ok (.imul, 1) := by decide +kernel
theorem dX9_findRound_94 : decode cX9_findRound 94 = .ok (.istore 4, 2) := by decide +kernel
theorem dX9_findRound_96 : decode cX9_findRound 96 = .ok (.iinc 5 1, 3) := by decide +kernel
theorem dX9_findRound_99 : decode cX9_findRound 99 = .ok (.goto (-58), 3) := by decide +kernel
theorem dX9_findRound_102 : decode cX9_findRound 102 = .ok (.iload_n 2, 1) := by decide +kernel
theorem dX9_findRound_103 : decode cX9_findRound 103 = .ok (.iload_n 1, 1) := by decide +kernel
theorem dX9_findRound_104 : decode cX9_findRound 104 = .ok (.invokestatic 325, 3) := by decide +kernel
theorem dX9_findRound_107 : decode cX9_findRound 107 = .ok (.ifCond .eq 64, 3) := by decide +kernel
theorem dX9_findRound_110 : decode cX9_findRound 110 = .ok (.iload_n 3, 1) := by decide +kernel
theorem dX9_findRound_111 : decode cX9_findRound 111 = .ok (.aload_n 0, 1) := by decide +kernel
theorem dX9_findRound_112 : decode cX9_findRound 112 = .ok (.getfield 322, 3) := by decide +kernel
theorem dX9_findRound_115 : decode cX9_findRound 115 = .ok (.imul, 1) := by decide +kernel
theorem dX9_findRound_116 : decode cX9_findRound 116 = .ok (.aload_n 0, 1) := by decide +kernel
theorem dX9_findRound_117 : decode cX9_findRound 117 = .ok (.getfield 319, 3) := by decide +kernel
theorem dX9_findRound_120 : decode cX9_findRound 120 = .ok (.iload 4, 2) := by decide +kernel
theorem dX9_findRound_122 : decode cX9_findRound 122 = .ok (.imul, 1) := by decide +kernel
theorem dX9_findRound_123 : decode cX9_findRound 123 = .ok (.if_icmp .le 48, 3) := by decide +kernel
theorem dX9_findRound_126 : decode cX9_findRound 126 = .ok (.aload_n 0, 1) := by decide +kernel
theorem dX9_findRound_127 : decode cX9_findRound 127 = .ok (.iload_n 1, 1) := by decide +kernel
theorem dX9_findRound_128 : decode cX9_findRound 128 = .ok (.putfield 316, 3) := by decide +kernel
theorem dX9_findRound_131 : decode cX9_findRound 131 = .ok (.aload_n 0, 1) := by decide +kernel
theorem dX9_findRound_132 : decode cX9_findRound 132 = .ok (.iload_n 3, 1) := by decide +kernel
theorem dX9_findRound_133 : decode cX9_findRound 133 = .ok (.putfield 319, 3) := by decide +kernel
theorem dX9_findRound_136 : decode cX9_findRound 136 = .ok (.aload_n 0, 1) := by decide +kernel
theorem dX9_findRound_137 : decode cX9_findRound 137 = .ok (.iload 4, 2) := by decide +kernel
theorem dX9_findRound_139 : decode cX9_findRound 139 = .ok (.putfield 322, 3) := by decide +kernel
theorem dX9_findRound_142 : decode cX9_findRound 142 = .ok (.iconst 0, 1) := by decide +kernel
theorem dX9_findRound_143 : decode cX9_findRound 143 = .ok (.istore 5, 2) := by decide +kernel
theorem dX9_findRound_145 : decode cX9_findRound 145 = .ok (.iload 5, 2) := by decide +kernel
theorem dX9_findRound_147 : decode cX9_findRound 147 = .ok (.iload_n 1, 1) := by decide +kernel
theorem dX9_findRound_148 : decode cX9_findRound 148 = .ok (.if_icmp .ge 23, 3) := by decide +kernel
theorem dX9_findRound_151 : decode cX9_findRound 151 = .ok (.aload_n 0, 1) := by decide +kernel
theorem dX9_findRound_152 : decode cX9_findRound 152 = .ok (.getfield 80, 3) := by decide +kernel
theorem dX9_findRound_155 : decode cX9_findRound 155 = .ok (.iload 5, 2) := by decide +kernel
theorem dX9_findRound_157 : decode cX9_findRound 157 = .ok (.iload_n 2, 1) := by decide +kernel
theorem dX9_findRound_158 : decode cX9_findRound 158 = .ok (.iload_n 1, 1) := by decide +kernel
theorem dX9_findRound_159 : decode cX9_findRound 159 = .ok (.iload 5, 2) := by decide +kernel
theorem dX9_findRound_161 : decode cX9_findRound 161 = .ok (.invokestatic 313, 3) := by decide +kernel
theorem dX9_findRound_164 : decode cX9_findRound 164 = .ok (.iastore, 1) := by decide +kernel
theorem dX9_findRound_165 : decode cX9_findRound 165 = .ok (.iinc 5 1, 3) := by decide +kernel
theorem dX9_findRound_168 : decode cX9_findRound 168 = .ok (.goto (-23), 3) := by decide +kernel
theorem dX9_findRound_171 : decode cX9_findRound 171 = .ok (.iinc 2 1, 3) := by decide +kernel
theorem dX9_findRound_174 : decode cX9_findRound 174 = .ok (.goto (-150), 3) := by decide +kernel
theorem dX9_findRound_177 : decode cX9_findRound 177 = .ok (.iinc 1 1, 3) := by decide +kernel
theorem dX9_findRound_180 : decode cX9_findRound 180 = .ok (.goto (-163), 3) := by decide +kernel
theorem dX9_findRound_183 : decode cX9_findRound 183 = .ok (.return_, 1) := by decide +kernel
theorem dX9_tellsRound_0 : decode cX9_tellsRound 0 = .ok (.aload_n 0, 1) := by decide +kernel
theorem dX9_tellsRound_1 : decode cX9_tellsRound 1 = .ok (.getfield 319, 3) := by decide +kernel
theorem dX9_tellsRound_4 : decode cX9_tellsRound 4 = .ok (.i2l, 1) := by decide +kernel
theorem dX9_tellsRound_5 : decode cX9_tellsRound 5 = .ok (.aload_n 0, 1) := by decide +kernel
theorem dX9_tellsRound_6 : decode cX9_tellsRound 6 = .ok (.getfield 322, 3) := by decide +kernel
theorem dX9_tellsRound_9 : decode cX9_tellsRound 9 = .ok (.i2l, 1) := by decide +kernel
theorem dX9_tellsRound_10 : decode cX9_tellsRound 10 = .ok (.invokestatic 280, 3) := by decide +kernel
theorem dX9_tellsRound_13 : decode cX9_tellsRound 13 = .ok (.l2i, 1) := by decide +kernel
theorem dX9_tellsRound_14 : decode cX9_tellsRound 14 = .ok (.istore_n 2, 1) := by decide +kernel
theorem dX9_tellsRound_15 : decode cX9_tellsRound 15 = .ok (.iload_n 1, 1) := by decide +kernel
theorem dX9_tellsRound_16 : decode cX9_tellsRound 16 = .ok (.bipush (-2), 2) := by decide +kernel
theorem dX9_tellsRound_18 : decode cX9_tellsRound 18 = .ok (.if_icmp .ne 12, 3) := by decide +kernel
theorem dX9_tellsRound_21 : decode cX9_tellsRound 21 = .ok (.aload_n 0, 1) := by decide +kernel
theorem dX9_tellsRound_22 : decode cX9_tellsRound 22 = .ok (.getfield 319, 3) := by decide +kernel
theorem dX9_tellsRound_25 : decode cX9_tellsRound 25 = .ok (.iload_n 2, 1) := by decide +kernel
theorem dX9_tellsRound_26 : decode cX9_tellsRound 26 = .ok (.idiv, 1) := by decide +kernel
theorem dX9_tellsRound_27 : decode cX9_tellsRound 27 = .ok (.goto 35, 3) := by decide +kernel
theorem dX9_tellsRound_30 : decode cX9_tellsRound 30 = .ok (.iload_n 1, 1) := by decide +kernel
theorem dX9_tellsRound_31 : decode cX9_tellsRound 31 = .ok (.iconst (-1), 1) := by decide +kernel
theorem dX9_tellsRound_32 : decode cX9_tellsRound 32 = .ok (.if_icmp .ne 12, 3) := by decide +kernel
theorem dX9_tellsRound_35 : decode cX9_tellsRound 35 = .ok (.aload_n 0, 1) := by decide +kernel
theorem dX9_tellsRound_36 : decode cX9_tellsRound 36 = .ok (.getfield 322, 3) := by decide +kernel
theorem dX9_tellsRound_39 : decode cX9_tellsRound 39 = .ok (.iload_n 2, 1) := by decide +kernel
theorem dX9_tellsRound_40 : decode cX9_tellsRound 40 = .ok (.idiv, 1) := by decide +kernel
theorem dX9_tellsRound_41 : decode cX9_tellsRound 41 = .ok (.goto 21, 3) := by decide +kernel
theorem dX9_tellsRound_44 : decode cX9_tellsRound 44 = .ok (.iload_n 1, 1) := by decide +kernel
theorem dX9_tellsRound_45 : decode cX9_tellsRound 45 = .ok (.aload_n 0, 1) := by decide +kernel
theorem dX9_tellsRound_46 : decode cX9_tellsRound 46 = .ok (.getfield 316, 3) := by decide +kernel
theorem dX9_tellsRound_49 : decode cX9_tellsRound 49 = .ok (.if_icmp .ge 12, 3) := by decide +kernel
theorem dX9_tellsRound_52 : decode cX9_tellsRound 52 = .ok (.aload_n 0, 1) := by decide +kernel
theorem dX9_tellsRound_53 : decode cX9_tellsRound 53 = .ok (.getfield 80, 3) := by decide +kernel
theorem dX9_tellsRound_56 : decode cX9_tellsRound 56 = .ok (.iload_n 1, 1) := by decide +kernel
theorem dX9_tellsRound_57 : decode cX9_tellsRound 57 = .ok (.iaload, 1) := by decide +kernel
theorem dX9_tellsRound_58 : decode cX9_tellsRound 58 = .ok (.goto 4, 3) := by decide +kernel
theorem dX9_tellsRound_61 : decode cX9_tellsRound 61 = .ok (.iconst (-1), 1) := by decide +kernel
theorem dX9_tellsRound_62 : decode cX9_tellsRound 62 = .ok (.ireturn, 1) := by decide +kernel
theorem dX9_round_0 : decode cX9_round 0 = .ok (.iload_n 1, 1) := by decide +kernel
theorem dX9_round_1 : decode cX9_round 1 = .ok (.i2l, 1) := by decide +kernel
theorem dX9_round_2 : decode cX9_round 2 = .ok (.ldc2_w 328, 3) := by decide +kernel
theorem dX9_round_5 : decode cX9_round 5 = .ok (.ldc2_w 96, 3) := by decide +kernel
theorem dX9_round_8 : decode cX9_round 8 = .ok (.invokestatic 88, 3) := by decide +kernel
theorem dX9_round_11 : decode cX9_round 11 = .ok (.ifCond .ne 6, 3) := by decide +kernel
theorem dX9_round_14 : decode cX9_round 14 = .ok (.bipush (-2), 2) := by decide +kernel
theorem dX9_round_16 : decode cX9_round 16 = .ok (.ireturn, 1) := by decide +kernel
theorem dX9_round_17 : decode cX9_round 17 = .ok (.aload_n 0, 1) := by decide +kernel
theorem dX9_round_18 : decode cX9_round 18 = .ok (.invokevirtual 330, 3) := by decide +kernel
theorem dX9_round_21 : decode cX9_round 21 = .ok (.aload_n 0, 1) := by decide +kernel
theorem dX9_round_22 : decode cX9_round 22 = .ok (.iload_n 1, 1) := by decide +kernel
theorem dX9_round_23 : decode cX9_round 23 = .ok (.invokevirtual 333, 3) := by decide +kernel
theorem dX9_round_26 : decode cX9_round 26 = .ok (.ireturn, 1) := by decide +kernel
theorem dX9_bill_0 : decode cX9_bill 0 = .ok (.iload_n 1, 1) := by decide +kernel
theorem dX9_bill_1 : decode cX9_bill 1 = .ok (.i2l, 1) := by decide +kernel
theorem dX9_bill_2 : decode cX9_bill 2 = .ok (.lconst 1, 1) := by decide +kernel
theorem dX9_bill_3 : decode cX9_bill 3 = .ok (.ldc2_w 147, 3) := by decide +kernel
theorem dX9_bill_6 : decode cX9_bill 6 = .ok (.invokestatic 88, 3) := by decide +kernel
theorem dX9_bill_9 : decode cX9_bill 9 = .ok (.ifCond .eq 22, 3) := by decide +kernel
theorem dX9_bill_12 : decode cX9_bill 12 = .ok (.iload_n 2, 1) := by decide +kernel
theorem dX9_bill_13 : decode cX9_bill 13 = .ok (.invokestatic 168, 3) := by decide +kernel
theorem dX9_bill_16 : decode cX9_bill 16 = .ok (.ifCond .eq 15, 3) := by decide +kernel
theorem dX9_bill_19 : decode cX9_bill 19 = .ok (.iload_n 3, 1) := by decide +kernel
theorem dX9_bill_20 : decode cX9_bill 20 = .ok (.i2l, 1) := by decide +kernel
theorem dX9_bill_21 : decode cX9_bill 21 = .ok (.lconst 1, 1) := by decide +kernel
theorem dX9_bill_22 : decode cX9_bill 22 = .ok (.ldc2_w 134, 3) := by decide +kernel
theorem dX9_bill_25 : decode cX9_bill 25 = .ok (.invokestatic 88, 3) := by decide +kernel
theorem dX9_bill_28 : decode cX9_bill 28 = .ok (.ifCond .ne 6, 3) := by decide +kernel
theorem dX9_bill_31 : decode cX9_bill 31 = .ok (.bipush (-2), 2) := by decide +kernel
theorem dX9_bill_33 : decode cX9_bill 33 = .ok (.ireturn, 1) := by decide +kernel
theorem dX9_bill_34 : decode cX9_bill 34 = .ok (.aload_n 0, 1) := by decide +kernel
theorem dX9_bill_35 : decode cX9_bill 35 = .ok (.getfield 336, 3) := by decide +kernel
theorem dX9_bill_38 : decode cX9_bill 38 = .ok (.bipush 6, 2) := by decide +kernel
theorem dX9_bill_40 : decode cX9_bill 40 = .ok (.if_icmp .ne 6, 3) := by decide +kernel
theorem dX9_bill_43 : decode cX9_bill 43 = .ok (.bipush (-4), 2) := by decide +kernel
theorem dX9_bill_45 : decode cX9_bill 45 = .ok (.ireturn, 1) := by decide +kernel
theorem dX9_bill_46 : decode cX9_bill 46 = .ok (.aload_n 0, 1) := by decide +kernel
theorem dX9_bill_47 : decode cX9_bill 47 = .ok (.getfield 83, 3) := by decide +kernel
theorem dX9_bill_50 : decode cX9_bill 50 = .ok (.iconst 3, 1) := by decide +kernel
theorem dX9_bill_51 : decode cX9_bill 51 = .ok (.aload_n 0, 1) := by decide +kernel
theorem dX9_bill_52 : decode cX9_bill 52 = .ok (.getfield 336, 3) := by decide +kernel
theorem dX9_bill_55 : decode cX9_bill 55 = .ok (.imul, 1) := by decide +kernel
theorem dX9_bill_56 : decode cX9_bill 56 = .ok (.iload_n 1, 1) := by decide +kernel
theorem dX9_bill_57 : decode cX9_bill 57 = .ok (.iastore, 1) := by decide +kernel
theorem dX9_bill_58 : decode cX9_bill 58 = .ok (.aload_n 0, 1) := by decide +kernel
theorem dX9_bill_59 : decode cX9_bill 59 = .ok (.getfield 83, 3) := by decide +kernel
theorem dX9_bill_62 : decode cX9_bill 62 = .ok (.iconst 3, 1) := by decide +kernel
theorem dX9_bill_63 : decode cX9_bill 63 = .ok (.aload_n 0, 1) := by decide +kernel
theorem dX9_bill_64 : decode cX9_bill 64 = .ok (.getfield 336, 3) := by decide +kernel
theorem dX9_bill_67 : decode cX9_bill 67 = .ok (.imul, 1) := by decide +kernel
theorem dX9_bill_68 : decode cX9_bill 68 = .ok (.iconst 1, 1) := by decide +kernel
theorem dX9_bill_69 : decode cX9_bill 69 = .ok (.iadd, 1) := by decide +kernel
theorem dX9_bill_70 : decode cX9_bill 70 = .ok (.iload_n 2, 1) := by decide +kernel
theorem dX9_bill_71 : decode cX9_bill 71 = .ok (.iastore, 1) := by decide +kernel
theorem dX9_bill_72 : decode cX9_bill 72 = .ok (.aload_n 0, 1) := by decide +kernel
theorem dX9_bill_73 : decode cX9_bill 73 = .ok (.getfield 83, 3) := by decide +kernel
theorem dX9_bill_76 : decode cX9_bill 76 = .ok (.iconst 3, 1) := by decide +kernel
theorem dX9_bill_77 : decode cX9_bill 77 = .ok (.aload_n 0, 1) := by decide +kernel
theorem dX9_bill_78 : decode cX9_bill 78 = .ok (.getfield 336, 3) := by decide +kernel
theorem dX9_bill_81 : decode cX9_bill 81 = .ok (.imul, 1) := by decide +kernel
theorem dX9_bill_82 : decode cX9_bill 82 = .ok (.iconst 2, 1) := by decide +kernel
theorem dX9_bill_83 : decode cX9_bill 83 = .ok (.iadd, 1) := by decide +kernel
theorem dX9_bill_84 : decode cX9_bill 84 = .ok (.iload_n 3, 1) := by decide +kernel
theorem dX9_bill_85 : decode cX9_bill 85 = .ok (.iastore, 1) := by decide +kernel
theorem dX9_bill_86 : decode cX9_bill 86 = .ok (.aload_n 0, 1) := by decide +kernel
theorem dX9_bill_87 : decode cX9_bill 87 = .ok (.dup, 1) := by decide +kernel
theorem dX9_bill_88 : decode cX9_bill 88 = .ok (.getfield 336, 3) := by decide +kernel
theorem dX9_bill_91 : decode cX9_bill 91 = .ok (.iconst 1, 1) := by decide +kernel
theorem dX9_bill_92 : decode cX9_bill 92 = .ok (.iadd, 1) := by decide +kernel
theorem dX9_bill_93 : decode cX9_bill 93 = .ok (.putfield 336, 3) := by decide +kernel
theorem dX9_bill_96 : decode cX9_bill 96 = .ok (.aload_n 0, 1) := by decide +kernel
theorem dX9_bill_97 : decode cX9_bill 97 = .ok (.getfield 336, 3) := by decide +kernel
theorem dX9_bill_100 : decode cX9_bill 100 = .ok (.ireturn, 1) := by decide +kernel
theorem dX9_yearsNow_0 : decode cX9_yearsNow 0 = .ok (.iconst 0, 1) := by decide +kernel
theorem dX9_yearsNow_1 : decode cX9_yearsNow 1 = .ok (.istore_n 1, 1) := by decide +kernel
theorem dX9_yearsNow_2 : decode cX9_yearsNow 2 = .ok (.iconst 0, 1) := by decide +kernel
theorem dX9_yearsNow_3 : decode cX9_yearsNow 3 = .ok (.istore_n 2, 1) := by decide +kernel
theorem dX9_yearsNow_4 : decode cX9_yearsNow 4 = .ok (.iload_n 2, 1) := by decide +kernel
theorem dX9_yearsNow_5 : decode cX9_yearsNow 5 = .ok (.bipush 10, 2) := by decide +kernel
theorem dX9_yearsNow_7 : decode cX9_yearsNow 7 = .ok (.if_icmp .ge 93, 3) := by decide +kernel
theorem dX9_yearsNow_10 : decode cX9_yearsNow 10 = .ok (.iconst 1, 1) := by decide +kernel
theorem dX9_yearsNow_11 : decode cX9_yearsNow 11 = .ok (.istore_n 3, 1) := by decide +kernel
theorem dX9_yearsNow_12 : decode cX9_yearsNow 12 = .ok (.iconst 0, 1) := by decide +kernel
theorem dX9_yearsNow_13 : decode cX9_yearsNow 13 = .ok (.istore 4, 2) := by decide +kernel
theorem dX9_yearsNow_15 : decode cX9_yearsNow 15 = .ok (.iload 4, 2) := by decide +kernel
theorem dX9_yearsNow_17 : decode cX9_yearsNow 17 = .ok (.aload_n 0, 1) := by decide +kernel
theorem dX9_yearsNow_18 : decode cX9_yearsNow 18 = .ok (.getfield 336, 3) := by decide +kernel
theorem dX9_yearsNow_21 : decode cX9_yearsNow 21 = .ok (.if_icmp .ge 59, 3) := by decide +kernel
theorem dX9_yearsNow_24 : decode cX9_yearsNow 24 = .ok (.iload_n 3, 1) := by decide +kernel
theorem dX9_yearsNow_25 : decode cX9_yearsNow 25 = .ok (.ifCond .eq 47, 3) := by decide +kernel
theorem dX9_yearsNow_28 : decode cX9_yearsNow 28 = .ok (.aload_n 0, 1) := by decide +kernel
theorem dX9_yearsNow_29 : decode cX9_yearsNow 29 = .ok (.getfield 83, 3) := by decide +kernel
theorem dX9_yearsNow_32 : decode cX9_yearsNow 32 = .ok (.iconst 3, 1) := by decide +kernel
theorem dX9_yearsNow_33 : decode cX9_yearsNow 33 = .ok (.iload 4, 2) := by decide +kernel
theorem dX9_yearsNow_35 : decode cX9_yearsNow 35 = .ok (.imul, 1) := by decide +kernel
theorem dX9_yearsNow_36 : decode cX9_yearsNow 36 = .ok (.iaload, 1) := by decide +kernel
theorem dX9_yearsNow_37 : decode cX9_yearsNow 37 = .ok (.aload_n 0, 1) := by decide +kernel
theorem dX9_yearsNow_38 : decode cX9_yearsNow 38 = .ok (.iload_n 2, 1) := by decide +kernel
theorem dX9_yearsNow_39 : decode cX9_yearsNow 39 = .ok (.aload_n 0, 1) := by decide +kernel
theorem dX9_yearsNow_40 : decode cX9_yearsNow 40 = .ok (.getfield 83, 3) := by decide +kernel
theorem dX9_yearsNow_43 : decode cX9_yearsNow 43 = .ok (.iconst 3, 1) := by decide +kernel
theorem dX9_yearsNow_44 : decode cX9_yearsNow 44 = .ok (.iload 4, 2) := by decide +kernel
theorem dX9_yearsNow_46 : decode cX9_yearsNow 46 = .ok (.imul, 1) := by decide +kernel
theorem dX9_yearsNow_47 : decode cX9_yearsNow 47 = .ok (.iconst 1, 1) := by decide +kernel
theorem dX9_yearsNow_48 : decode cX9_yearsNow 48 = .ok (.iadd, 1) := by decide +kernel
theorem dX9_yearsNow_49 : decode cX9_yearsNow 49 = .ok (.iaload, 1) := by decide +kernel
theorem dX9_yearsNow_50 : decode cX9_yearsNow 50 = .ok (.invokevirtual 210, 3) := by decide +kernel
theorem dX9_yearsNow_53 : decode cX9_yearsNow 53 = .ok (.imul, 1) := by decide +kernel
theorem dX9_yearsNow_54 : decode cX9_yearsNow 54 = .ok (.aload_n 0, 1) := by decide +kernel
theorem dX9_yearsNow_55 : decode cX9_yearsNow 55 = .ok (.getfield 83, 3) := by decide +kernel
theorem dX9_yearsNow_58 : decode cX9_yearsNow 58 = .ok (.iconst 3, 1) := by decide +kernel
theorem dX9_yearsNow_59 : decode cX9_yearsNow 59 = .ok (.iload 4, 2) := by decide +kernel
theorem dX9_yearsNow_61 : decode cX9_yearsNow 61 = .ok (.imul, 1) := by decide +kernel
theorem dX9_yearsNow_62 : decode cX9_yearsNow 62 = .ok (.iconst 2, 1) := by decide +kernel
theorem dX9_yearsNow_63 : decode cX9_yearsNow 63 = .ok (.iadd, 1) := by decide +kernel
theorem dX9_yearsNow_64 : decode cX9_yearsNow 64 = .ok (.iaload, 1) := by decide +kernel
theorem dX9_yearsNow_65 : decode cX9_yearsNow 65 = .ok (.if_icmp .ne 7, 3) := by decide +kernel
theorem dX9_yearsNow_68 : decode cX9_yearsNow 68 = .ok (.iconst 1, 1) := by decide +kernel
theorem dX9_yearsNow_69 : decode cX9_yearsNow 69 = .ok (.goto 4, 3) := by decide +kernel
theorem dX9_yearsNow_72 : decode cX9_yearsNow 72 = .ok (.iconst 0, 1) := by decide +kernel
theorem dX9_yearsNow_73 : decode cX9_yearsNow 73 = .ok (.istore_n 3, 1) := by decide +kernel
theorem dX9_yearsNow_74 : decode cX9_yearsNow 74 = .ok (.iinc 4 1, 3) := by decide +kernel
theorem dX9_yearsNow_77 : decode cX9_yearsNow 77 = .ok (.goto (-62), 3) := by decide +kernel
theorem dX9_yearsNow_80 : decode cX9_yearsNow 80 = .ok (.iload_n 1, 1) := by decide +kernel
theorem dX9_yearsNow_81 : decode cX9_yearsNow 81 = .ok (.iload_n 3, 1) := by decide +kernel
theorem dX9_yearsNow_82 : decode cX9_yearsNow 82 = .ok (.ifCond .eq 9, 3) := by decide +kernel
theorem dX9_yearsNow_85 : decode cX9_yearsNow 85 = .ok (.iconst 1, 1) := by decide +kernel
theorem dX9_yearsNow_86 : decode cX9_yearsNow 86 = .ok (.iload_n 2, 1) := by decide +kernel
theorem dX9_yearsNow_87 : decode cX9_yearsNow 87 = .ok (.ishl, 1) := by decide +kernel
theorem dX9_yearsNow_88 : decode cX9_yearsNow 88 = .ok (.goto 4, 3) := by decide +kernel
theorem dX9_yearsNow_91 : decode cX9_yearsNow 91 = .ok (.iconst 0, 1) := by decide +kernel
theorem dX9_yearsNow_92 : decode cX9_yearsNow 92 = .ok (.ior, 1) := by decide +kernel
theorem dX9_yearsNow_93 : decode cX9_yearsNow 93 = .ok (.istore_n 1, 1) := by decide +kernel
theorem dX9_yearsNow_94 : decode cX9_yearsNow 94 = .ok (.iinc 2 1, 3) := by decide +kernel
theorem dX9_yearsNow_97 : decode cX9_yearsNow 97 = .ok (.goto (-93), 3) := by decide +kernel
theorem dX9_yearsNow_100 : decode cX9_yearsNow 100 = .ok (.iload_n 1, 1) := by decide +kernel
theorem dX9_yearsNow_101 : decode cX9_yearsNow 101 = .ok (.ireturn, 1) := by decide +kernel
theorem dX9_years_0 : decode cX9_years 0 = .ok (.aload_n 0, 1) := by decide +kernel
theorem dX9_years_1 : decode cX9_years 1 = .ok (.invokevirtual 207, 3) := by decide +kernel
theorem dX9_years_4 : decode cX9_years 4 = .ok (.aload_n 0, 1) := by decide +kernel
theorem dX9_years_5 : decode cX9_years 5 = .ok (.invokevirtual 339, 3) := by decide +kernel
theorem dX9_years_8 : decode cX9_years 8 = .ok (.ireturn, 1) := by decide +kernel
theorem dX9_back_0 : decode cX9_back 0 = .ok (.iload_n 1, 1) := by decide +kernel
theorem dX9_back_1 : decode cX9_back 1 = .ok (.i2l, 1) := by decide +kernel
theorem dX9_back_2 : decode cX9_back 2 = .ok (.lconst 0, 1) := by decide +kernel
theorem dX9_back_3 : decode cX9_back 3 = .ok (.ldc2_w 102, 3) := by decide +kernel
theorem dX9_back_6 : decode cX9_back 6 = .ok (.invokestatic 88, 3) := by decide +kernel
theorem dX9_back_9 : decode cX9_back 9 = .ok (.ifCond .ne 6, 3) := by decide +kernel
theorem dX9_back_12 : decode cX9_back 12 = .ok (.bipush (-2), 2) := by decide +kernel
theorem dX9_back_14 : decode cX9_back 14 = .ok (.ireturn, 1) := by decide +kernel
theorem dX9_back_15 : decode cX9_back 15 = .ok (.iload_n 1, 1) := by decide +kernel
theorem dX9_back_16 : decode cX9_back 16 = .ok (.ifCond .ne 10, 3) := by decide +kernel
theorem dX9_back_19 : decode cX9_back 19 = .ok (.aload_n 0, 1) := by decide +kernel
theorem dX9_back_20 : decode cX9_back 20 = .ok (.getfield 171, 3) := by decide +kernel
theorem dX9_back_23 : decode cX9_back 23 = .ok (.goto 19, 3) := by decide +kernel
theorem dX9_back_26 : decode cX9_back 26 = .ok (.iload_n 1, 1) := by decide +kernel
theorem dX9_back_27 : decode cX9_back 27 = .ok (.iconst 1, 1) := by decide +kernel
theorem dX9_back_28 : decode cX9_back 28 = .ok (.if_icmp .ne 10, 3) := by decide +kernel
theorem dX9_back_31 : decode cX9_back 31 = .ok (.aload_n 0, 1) := by decide +kernel
theorem dX9_back_32 : decode cX9_back 32 = .ok (.getfield 217, 3) := by decide +kernel
theorem dX9_back_35 : decode cX9_back 35 = .ok (.goto 7, 3) := by decide +kernel
theorem dX9_back_38 : decode cX9_back 38 = .ok (.aload_n 0, 1) := by decide +kernel
theorem dX9_back_39 : decode cX9_back 39 = .ok (.getfield 336, 3) := by decide +kernel
theorem dX9_back_42 : decode cX9_back 42 = .ok (.istore_n 2, 1) := by decide +kernel
theorem dX9_back_43 : decode cX9_back 43 = .ok (.iload_n 2, 1) := by decide +kernel
theorem dX9_back_44 : decode cX9_back 44 = .ok (.ifCond .ne 6, 3) := by decide +kernel
theorem dX9_back_47 : decode cX9_back 47 = .ok (.bipush (-3), 2) := by decide +kernel
theorem dX9_back_49 : decode cX9_back 49 = .ok (.ireturn, 1) := by decide +kernel
theorem dX9_back_50 : decode cX9_back 50 = .ok (.aload_n 0, 1) := by decide +kernel
theorem dX9_back_51 : decode cX9_back 51 = .ok (.dup, 1) := by decide +kernel
theorem dX9_back_52 : decode cX9_back 52 = .ok (.getfield 171, 3) := by decide +kernel
theorem dX9_back_55 : decode cX9_back 55 = .ok (.iload_n 1, 1) := by decide +kernel
theorem dX9_back_56 : decode cX9_back 56 = .ok (.ifCond .ne 7, 3) := by decide +kernel
theorem dX9_back_59 : decode cX9_back 59 = .ok (.iconst 1, 1) := by decide +kernel
theorem dX9_back_60 : decode cX9_back 60 = .ok (.goto 4, 3) := by decide +kernel
theorem dX9_back_63 : decode cX9_back 63 = .ok (.iconst 0, 1) := by decide +kernel
theorem dX9_back_64 : decode cX9_back 64 = .ok (.isub, 1) := by decide +kernel
theorem dX9_back_65 : decode cX9_back 65 = .ok (.putfield 171, 3) := by decide +kernel
theorem dX9_back_68 : decode cX9_back 68 = .ok (.aload_n 0, 1) := by decide +kernel
theorem dX9_back_69 : decode cX9_back 69 = .ok (.dup, 1) := by decide +kernel
theorem dX9_back_70 : decode cX9_back 70 = .ok (.getfield 217, 3) := by decide +kernel
theorem dX9_back_73 : decode cX9_back 73 = .ok (.iload_n 1, 1) := by decide +kernel
theorem dX9_back_74 : decode cX9_back 74 = .ok (.iconst 1, 1) := by decide +kernel
theorem dX9_back_75 : decode cX9_back 75 = .ok (.if_icmp .ne 7, 3) := by decide +kernel
theorem dX9_back_78 : decode cX9_back 78 = .ok (.iconst 1, 1) := by decide +kernel
theorem dX9_back_79 : decode cX9_back 79 = .ok (.goto 4, 3) := by decide +kernel
theorem dX9_back_82 : decode cX9_back 82 = .ok (.iconst 0, 1) := by decide +kernel
theorem dX9_back_83 : decode cX9_back 83 = .ok (.isub, 1) := by decide +kernel
theorem dX9_back_84 : decode cX9_back 84 = .ok (.putfield 217, 3) := by decide +kernel
theorem dX9_back_87 : decode cX9_back 87 = .ok (.aload_n 0, 1) := by decide +kernel
theorem dX9_back_88 : decode cX9_back 88 = .ok (.dup, 1) := by decide +kernel
theorem dX9_back_89 : decode cX9_back 89 = .ok (.getfield 336, 3) := by decide +kernel
theorem dX9_back_92 : decode cX9_back 92 = .ok (.iload_n 1, 1) := by decide +kernel
theorem dX9_back_93 : decode cX9_back 93 = .ok (.iconst 2, 1) := by decide +kernel
theorem dX9_back_94 : decode cX9_back 94 = .ok (.if_icmp .ne 7, 3) := by decide +kernel
theorem dX9_back_97 : decode cX9_back 97 = .ok (.iconst 1, 1) := by decide +kernel
theorem dX9_back_98 : decode cX9_back 98 = .ok (.goto 4, 3) := by decide +kernel
theorem dX9_back_101 : decode cX9_back 101 = .ok (.iconst 0, 1) := by decide +kernel
theorem dX9_back_102 : decode cX9_back 102 = .ok (.isub, 1) := by decide +kernel
theorem dX9_back_103 : decode cX9_back 103 = .ok (.putfield 336, 3) := by decide +kernel
theorem dX9_back_106 : decode cX9_back 106 = .ok (.iload_n 2, 1) := by decide +kernel
theorem dX9_back_107 : decode cX9_back 107 = .ok (.iconst 1, 1) := by decide +kernel
theorem dX9_back_108 : decode cX9_back 108 = .ok (.isub, 1) := by decide +kernel
theorem dX9_back_109 : decode cX9_back 109 = .ok (.ireturn, 1) := by decide +kernel
theorem dX9_read_0 : decode cX9_read 0 = .ok (.iload_n 1, 1) := by decide +kernel
theorem dX9_read_1 : decode cX9_read 1 = .ok (.invokestatic 98, 3) := by decide +kernel
theorem dX9_read_4 : decode cX9_read 4 = .ok (.ifCond .ne 6, 3) := by decide +kernel
theorem dX9_read_7 : decode cX9_read 7 = .ok (.bipush (-2), 2) := by decide +kernel
theorem dX9_read_9 : decode cX9_read 9 = .ok (.ireturn, 1) := by decide +kernel
theorem dX9_read_10 : decode cX9_read 10 = .ok (.aload_n 0, 1) := by decide +kernel
theorem dX9_read_11 : decode cX9_read 11 = .ok (.getfield 7, 3) := by decide +kernel
theorem dX9_read_14 : decode cX9_read 14 = .ok (.iload_n 1, 1) := by decide +kernel
theorem dX9_read_15 : decode cX9_read 15 = .ok (.iaload, 1) := by decide +kernel
theorem dX9_read_16 : decode cX9_read 16 = .ok (.ifCond .ge 9, 3) := by decide +kernel
theorem dX9_read_19 : decode cX9_read 19 = .ok (.aload_n 0, 1) := by decide +kernel
theorem dX9_read_20 : decode cX9_read 20 = .ok (.iconst 1, 1) := by decide +kernel
theorem dX9_read_21 : decode cX9_read 21 = .ok (.invokevirtual 104, 3) := by decide +kernel
theorem dX9_read_24 : decode cX9_read 24 = .ok (.ireturn, 1) := by decide +kernel
theorem dX9_read_25 : decode cX9_read 25 = .ok (.iconst 0, 1) := by decide +kernel
theorem dX9_read_26 : decode cX9_read 26 = .ok (.istore_n 2, 1) := by decide +kernel
theorem dX9_read_27 : decode cX9_read 27 = .ok (.iload_n 2, 1) := by decide +kernel
theorem dX9_read_28 : decode cX9_read 28 = .ok (.aload_n 0, 1) := by decide +kernel
theorem dX9_read_29 : decode cX9_read 29 = .ok (.getfield 13, 3) := by decide +kernel
theorem dX9_read_32 : decode cX9_read 32 = .ok (.iload_n 1, 1) := by decide +kernel
theorem dX9_read_33 : decode cX9_read 33 = .ok (.iaload, 1) := by decide +kernel
theorem dX9_read_34 : decode cX9_read 34 = .ok (.if_icmp .ge 28, 3) := by decide +kernel
theorem dX9_read_37 : decode cX9_read 37 = .ok (.aload_n 0, 1) := by decide +kernel
theorem dX9_read_38 : decode cX9_read 38 = .ok (.iload_n 2, 1) := by decide +kernel
theorem dX9_read_39 : decode cX9_read 39 = .ok (.aload_n 0, 1) := by decide +kernel
theorem dX9_read_40 : decode cX9_read 40 = .ok (.getfield 16, 3) := by decide +kernel
theorem dX9_read_43 : decode cX9_read 43 = .ok (.bipush 60, 2) := by decide +kernel
theorem dX9_read_45 : decode cX9_read 45 = .ok (.iload_n 1, 1) := by decide +kernel
theorem dX9_read_46 : decode cX9_read 46 = .ok (.imul, 1) := by decide +kernel
theorem dX9_read_47 : decode cX9_read 47 = .ok (.iload_n 2, 1) := by decide +kernel
theorem dX9_read_48 : decode cX9_read 48 = .ok (.iadd, 1) := by decide +kernel
theorem dX9_read_49 : decode cX9_read 49 = .ok (.iaload, 1) := by decide +kernel
theorem dX9_read_50 : decode cX9_read 50 = .ok (.invokevirtual 342, 3) := by decide +kernel
theorem dX9_read_53 : decode cX9_read 53 = .ok (.ifCond .lt 9, 3) := by decide +kernel
theorem dX9_read_56 : decode cX9_read 56 = .ok (.iinc 2 1, 3) := by decide +kernel
theorem dX9_read_59 : decode cX9_read 59 = .ok (.goto (-32), 3) := by decide +kernel
theorem dX9_read_62 : decode cX9_read 62 = .ok (.iload_n 2, 1) := by decide +kernel
theorem dX9_read_63 : decode cX9_read 63 = .ok (.ireturn, 1) := by decide +kernel
theorem dX9_write_0 : decode cX9_write 0 = .ok (.iload_n 1, 1) := by decide +kernel
theorem dX9_write_1 : decode cX9_write 1 = .ok (.invokestatic 165, 3) := by decide +kernel
theorem dX9_write_4 : decode cX9_write 4 = .ok (.ifCond .eq 10, 3) := by decide +kernel
theorem dX9_write_7 : decode cX9_write 7 = .ok (.iload_n 2, 1) := by decide +kernel
theorem dX9_write_8 : decode cX9_write 8 = .ok (.invokestatic 98, 3) := by decide +kernel
theorem dX9_write_11 : decode cX9_write 11 = .ok (.ifCond .ne 6, 3) := by decide +kernel
theorem dX9_write_14 : decode cX9_write 14 = .ok (.bipush (-2), 2) := by decide +kernel
theorem dX9_write_16 : decode cX9_write 16 = .ok (.ireturn, 1) := by decide +kernel
theorem dX9_write_17 : decode cX9_write 17 = .ok (.aload_n 0, 1) := by decide +kernel
theorem dX9_write_18 : decode cX9_write 18 = .ok (.getfield 7, 3) := by decide +kernel
theorem dX9_write_21 : decode cX9_write 21 = .ok (.iload_n 2, 1) := by decide +kernel
theorem dX9_write_22 : decode cX9_write 22 = .ok (.iaload, 1) := by decide +kernel
theorem dX9_write_23 : decode cX9_write 23 = .ok (.ifCond .ge 9, 3) := by decide +kernel
theorem dX9_write_26 : decode cX9_write 26 = .ok (.aload_n 0, 1) := by decide +kernel
theorem dX9_write_27 : decode cX9_write 27 = .ok (.iconst 1, 1) := by decide +kernel
theorem dX9_write_28 : decode cX9_write 28 = .ok (.invokevirtual 104, 3) := by decide +kernel
theorem dX9_write_31 : decode cX9_write 31 = .ok (.ireturn, 1) := by decide +kernel
theorem dX9_write_32 : decode cX9_write 32 = .ok (.aload_n 0, 1) := by decide +kernel
theorem dX9_write_33 : decode cX9_write 33 = .ok (.invokevirtual 207, 3) := by decide +kernel
theorem dX9_write_36 : decode cX9_write 36 = .ok (.aload_n 0, 1) := by decide +kernel
theorem dX9_write_37 : decode cX9_write 37 = .ok (.getfield 13, 3) := by decide +kernel
theorem dX9_write_40 : decode cX9_write 40 = .ok (.iload_n 2, 1) := by decide +kernel
theorem dX9_write_41 : decode cX9_write 41 = .ok (.iaload, 1) := by decide +kernel
theorem dX9_write_42 : decode cX9_write 42 = .ok (.bipush 8, 2) := by decide +kernel
theorem dX9_write_44 : decode cX9_write 44 = .ok (.if_icmp .ge 12, 3) := by decide +kernel
theorem dX9_write_47 : decode cX9_write 47 = .ok (.aload_n 0, 1) := by decide +kernel
theorem dX9_write_48 : decode cX9_write 48 = .ok (.getfield 13, 3) := by decide +kernel
theorem dX9_write_51 : decode cX9_write 51 = .ok (.iload_n 2, 1) := by decide +kernel
theorem dX9_write_52 : decode cX9_write 52 = .ok (.iaload, 1) := by decide +kernel
theorem dX9_write_53 : decode cX9_write 53 = .ok (.goto 5, 3) := by decide +kernel
theorem dX9_write_56 : decode cX9_write 56 = .ok (.bipush 8, 2) := by decide +kernel
theorem dX9_write_58 : decode cX9_write 58 = .ok (.istore_n 3, 1) := by decide +kernel
theorem dX9_write_59 : decode cX9_write 59 = .ok (.iconst 0, 1) := by decide +kernel
theorem dX9_write_60 : decode cX9_write 60 = .ok (.istore 4, 2) := by decide +kernel
theorem dX9_write_62 : decode cX9_write 62 = .ok (.iload 4, 2) := by decide +kernel
theorem dX9_write_64 : decode cX9_write 64 = .ok (.iload_n 3, 1) := by decide +kernel
theorem dX9_write_65 : decode cX9_write 65 = .ok (.if_icmp .ge 37, 3) := by decide +kernel
theorem dX9_write_68 : decode cX9_write 68 = .ok (.aload_n 0, 1) := by decide +kernel
theorem dX9_write_69 : decode cX9_write 69 = .ok (.getfield 16, 3) := by decide +kernel
theorem dX9_write_72 : decode cX9_write 72 = .ok (.bipush 60, 2) := by decide +kernel
theorem dX9_write_74 : decode cX9_write 74 = .ok (.iload_n 2, 1) := by decide +kernel
theorem dX9_write_75 : decode cX9_write 75 = .ok (.imul, 1) := by decide +kernel
theorem dX9_write_76 : decode cX9_write 76 = .ok (.iload 4, 2) := by decide +kernel
theorem dX9_write_78 : decode cX9_write 78 = .ok (.iadd, 1) := by decide +kernel
theorem dX9_write_79 : decode cX9_write 79 = .ok (.aload_n 0, 1) := by decide +kernel
theorem dX9_write_80 : decode cX9_write 80 = .ok (.getfield 7, 3) := by decide +kernel
theorem dX9_write_83 : decode cX9_write 83 = .ok (.iload_n 2, 1) := by decide +kernel
theorem dX9_write_84 : decode cX9_write 84 = .ok (.iaload, 1) := by decide +kernel
theorem dX9_write_85 : decode cX9_write 85 = .ok (.aload_n 0, 1) := by decide +kernel
theorem dX9_write_86 : decode cX9_write 86 = .ok (.iload 4, 2) := by decide +kernel
theorem dX9_write_88 : decode cX9_write 88 = .ok (.iload_n 1, 1) := by decide +kernel
theorem dX9_write_89 : decode cX9_write 89 = .ok (.invokevirtual 226, 3) := by decide +kernel
theorem dX9_write_92 : decode cX9_write 92 = .ok (.invokestatic 112, 3) := by decide +kernel
theorem dX9_write_95 : decode cX9_write 95 = .ok (.iastore, 1) := by decide +kernel
theorem dX9_write_96 : decode cX9_write 96 = .ok (.iinc 4 1, 3) := by decide +kernel
theorem dX9_write_99 : decode cX9_write 99 = .ok (.goto (-37), 3) := by decide +kernel
theorem dX9_write_102 : decode cX9_write 102 = .ok (.iload_n 3, 1) := by decide +kernel
theorem dX9_write_103 : decode cX9_write 103 = .ok (.ireturn, 1) := by decide +kernel
theorem dX9_count_0 : decode cX9_count 0 = .ok (.aload_n 0, 1) := by decide +kernel
theorem dX9_count_1 : decode cX9_count 1 = .ok (.invokevirtual 151, 3) := by decide +kernel
theorem dX9_count_4 : decode cX9_count 4 = .ok (.iload_n 1, 1) := by decide +kernel
theorem dX9_count_5 : decode cX9_count 5 = .ok (.tableswitch 88 0 8 #[51, 51, 51, 58, 63, 68, 73, 73, 83], 51) := by decide +kernel
theorem dX9_count_56 : decode cX9_count 56 = .ok (.aload_n 0, 1) := by decide +kernel
theorem dX9_count_57 : decode cX9_count 57 = .ok (.getfield 28, 3) := by decide +kernel
theorem dX9_count_60 : decode cX9_count 60 = .ok (.iload_n 1, 1) := by decide +kernel
theorem dX9_count_61 : decode cX9_count 61 = .ok (.iaload, 1) := by decide +kernel
theorem dX9_count_62 : decode cX9_count 62 = .ok (.ireturn, 1) := by decide +kernel
theorem dX9_count_63 : decode cX9_count 63 = .ok (.aload_n 0, 1) := by decide +kernel
theorem dX9_count_64 : decode cX9_count 64 = .ok (.getfield 171, 3) := by decide +kernel
theorem dX9_count_67 : decode cX9_count 67 = .ok (.ireturn, 1) := by decide +kernel
theorem dX9_count_68 : decode cX9_count 68 = .ok (.aload_n 0, 1) := by decide +kernel
theorem dX9_count_69 : decode cX9_count 69 = .ok (.getfield 217, 3) := by decide +kernel
theorem dX9_count_72 : decode cX9_count 72 = .ok (.ireturn, 1) := by decide +kernel
theorem dX9_count_73 : decode cX9_count 73 = .ok (.aload_n 0, 1) := by decide +kernel
theorem dX9_count_74 : decode cX9_count 74 = .ok (.getfield 336, 3) := by decide +kernel
theorem dX9_count_77 : decode cX9_count 77 = .ok (.ireturn, 1) := by decide +kernel
theorem dX9_count_78 : decode cX9_count 78 = .ok (.aload_n 0, 1) := by decide +kernel
theorem dX9_count_79 : decode cX9_count 79 = .ok (.getfield 34, 3) := by decide +kernel
theorem dX9_count_82 : decode cX9_count 82 = .ok (.iload_n 1, 1) := by decide +kernel
theorem dX9_count_83 : decode cX9_count 83 = .ok (.bipush 6, 2) := by decide +kernel
theorem dX9_count_85 : decode cX9_count 85 = .ok (.isub, 1) := by decide +kernel
theorem dX9_count_86 : decode cX9_count 86 = .ok (.iaload, 1) := by decide +kernel
theorem dX9_count_87 : decode cX9_count 87 = .ok (.ireturn, 1) := by decide +kernel
theorem dX9_count_88 : decode cX9_count 88 = .ok (.aload_n 0, 1) := by decide +kernel
theorem dX9_count_89 : decode cX9_count 89 = .ok (.getfield 92, 3) := by decide +kernel
theorem dX9_count_92 : decode cX9_count 92 = .ok (.ireturn, 1) := by decide +kernel
theorem dX9_count_93 : decode cX9_count 93 = .ok (.bipush (-2), 2) := by decide +kernel
theorem dX9_count_95 : decode cX9_count 95 = .ok (.ireturn, 1) := by decide +kernel
theorem dX9_digest_0 : decode cX9_digest 0 = .ok (.ldc2_w 345, 3) := by decide +kernel
theorem dX9_digest_3 : decode cX9_digest 3 = .ok (.lstore_n 1, 1) := by decide +kernel
theorem dX9_digest_4 : decode cX9_digest 4 = .ok (.iconst 0, 1) := by decide +kernel
theorem dX9_digest_5 : decode cX9_digest 5 = .ok (.istore_n 3, 1) := by decide +kernel
theorem dX9_digest_6 : decode cX9_digest 6 = .ok (.iload_n 3, 1) := by decide +kernel
theorem dX9_digest_7 : decode cX9_digest 7 = .ok (.bipush 8, 2) := by decide +kernel
theorem dX9_digest_9 : decode cX9_digest 9 = .ok (.if_icmp .ge 22, 3) := by decide +kernel
theorem dX9_digest_12 : decode cX9_digest 12 = .ok (.ldc2_w 347, 3) := by decide +kernel
theorem dX9_digest_15 : decode cX9_digest 15 = .ok (.lload_n 1, 1) := by decide +kernel
theorem dX9_digest_16 : decode cX9_digest 16 = .ok (.lmul, 1) := by decide +kernel
theorem dX9_digest_17 : decode cX9_digest 17 = .ok (.aload_n 0, 1) := by decide +kernel
theorem dX9_digest_18 : decode cX9_digest 18 = .ok (.iload_n 3, 1) := by decide +kernel
theorem dX9_digest_19 : decode cX9_digest 19 = .ok (.invokevirtual 349, 3) := by decide +kernel
theorem dX9_digest_22 : decode cX9_digest 22 = .ok (.i2l, 1) := by decide +kernel
theorem dX9_digest_23 : decode cX9_digest 23 = .ok (.ladd, 1) := by decide +kernel
theorem dX9_digest_24 : decode cX9_digest 24 = .ok (.lstore_n 1, 1) := by decide +kernel
theorem dX9_digest_25 : decode cX9_digest 25 = .ok (.iinc 3 1, 3) := by decide +kernel
theorem dX9_digest_28 : decode cX9_digest 28 = .ok (.goto (-22), 3) := by decide +kernel
theorem dX9_digest_31 : decode cX9_digest 31 = .ok (.iconst 0, 1) := by decide +kernel
theorem dX9_digest_32 : decode cX9_digest 32 = .ok (.istore_n 3, 1) := by decide +kernel
theorem dX9_digest_33 : decode cX9_digest 33 = .ok (.iload_n 3, 1) := by decide +kernel
theorem dX9_digest_34 : decode cX9_digest 34 = .ok (.iconst 3, 1) := by decide +kernel
theorem dX9_digest_35 : decode cX9_digest 35 = .ok (.if_icmp .ge 22, 3) := by decide +kernel
theorem dX9_digest_38 : decode cX9_digest 38 = .ok (.ldc2_w 347, 3) := by decide +kernel
theorem dX9_digest_41 : decode cX9_digest 41 = .ok (.lload_n 1, 1) := by decide +kernel
theorem dX9_digest_42 : decode cX9_digest 42 = .ok (.lmul, 1) := by decide +kernel
theorem dX9_digest_43 : decode cX9_digest 43 = .ok (.aload_n 0, 1) := by decide +kernel
theorem dX9_digest_44 : decode cX9_digest 44 = .ok (.iload_n 3, 1) := by decide +kernel
theorem dX9_digest_45 : decode cX9_digest 45 = .ok (.invokevirtual 144, 3) := by decide +kernel
theorem dX9_digest_48 : decode cX9_digest 48 = .ok (.i2l, 1) := by decide +kernel
theorem dX9_digest_49 : decode cX9_digest 49 = .ok (.ladd, 1) := by decide +kernel
theorem dX9_digest_50 : decode cX9_digest 50 = .ok (.lstore_n 1, 1) := by decide +kernel
theorem dX9_digest_51 : decode cX9_digest 51 = .ok (.iinc 3 1, 3) := by decide +kernel
theorem dX9_digest_54 : decode cX9_digest 54 = .ok (.goto (-21), 3) := by decide +kernel
theorem dX9_digest_57 : decode cX9_digest 57 = .ok (.aload_n 0, 1) := by decide +kernel
theorem dX9_digest_58 : decode cX9_digest 58 = .ok (.invokevirtual 207, 3) := by decide +kernel
theorem dX9_digest_61 : decode cX9_digest 61 = .ok (.iconst 0, 1) := by decide +kernel
theorem dX9_digest_62 : decode cX9_digest 62 = .ok (.istore_n 3, 1) := by decide +kernel
theorem dX9_digest_63 : decode cX9_digest 63 = .ok (.iload_n 3, 1) := by decide +kernel
theorem dX9_digest_64 : decode cX9_digest 64 = .ok (.bipush 9, 2) := by decide +kernel
theorem dX9_digest_66 : decode cX9_digest 66 = .ok (.if_icmp .ge 137, 3) := by decide +kernel
theorem dX9_digest_69 : decode cX9_digest 69 = .ok (.iload_n 3, 1) := by decide +kernel
theorem dX9_digest_70 : decode cX9_digest 70 = .ok (.iconst 3, 1) := by decide +kernel
theorem dX9_digest_71 : decode cX9_digest 71 = .ok (.if_icmp .ge 7, 3) := by decide +kernel
theorem dX9_digest_74 : decode cX9_digest 74 = .ok (.iconst 0, 1) := by decide +kernel
theorem dX9_digest_75 : decode cX9_digest 75 = .ok (.goto 15, 3) := by decide +kernel
theorem dX9_digest_78 : decode cX9_digest 78 = .ok (.iload_n 3, 1) := by decide +kernel
theorem dX9_digest_79 : decode cX9_digest 79 = .ok (.bipush 6, 2) := by decide +kernel
theorem dX9_digest_81 : decode cX9_digest 81 = .ok (.if_icmp .ge 7, 3) := by decide +kernel
theorem dX9_digest_84 : decode cX9_digest 84 = .ok (.iconst 1, 1) := by decide +kernel
theorem dX9_digest_85 : decode cX9_digest 85 = .ok (.goto 5, 3) := by decide +kernel
theorem dX9_digest_88 : decode cX9_digest 88 = .ok (.bipush 9, 2) := by decide +kernel
theorem dX9_digest_90 : decode cX9_digest 90 = .ok (.istore 4, 2) := by decide +kernel
theorem dX9_digest_92 : decode cX9_digest 92 = .ok (.iload_n 3, 1) := by decide +kernel
theorem dX9_digest_93 : decode cX9_digest 93 = .ok (.iconst 3, 1) := by decide +kernel
theorem dX9_digest_94 : decode cX9_digest 94 = .ok (.irem, 1) := by decide +kernel
theorem dX9_digest_95 : decode cX9_digest 95 = .ok (.istore 5, 2) := by decide +kernel
theorem dX9_digest_97 : decode cX9_digest 97 = .ok (.ldc2_w 347, 3) := by decide +kernel
theorem dX9_digest_100 : decode cX9_digest 100 = .ok (.lload_n 1, 1) := by decide +kernel
theorem dX9_digest_101 : decode cX9_digest 101 = .ok (.lmul, 1) := by decide +kernel
theorem dX9_digest_102 : decode cX9_digest 102 = .ok (.aload_n 0, 1) := by decide +kernel
theorem dX9_digest_103 : decode cX9_digest 103 = .ok (.getfield 43, 3) := by decide +kernel
theorem dX9_digest_106 : decode cX9_digest 106 = .ok (.iconst 3, 1) := by decide +kernel
theorem dX9_digest_107 : decode cX9_digest 107 = .ok (.iload 4, 2) := by decide +kernel
theorem dX9_digest_109 : decode cX9_digest 109 = .ok (.imul, 1) := by decide +kernel
theorem dX9_digest_110 : decode cX9_digest 110 = .ok (.iload 5, 2) := by decide +kernel
theorem dX9_digest_112 : decode cX9_digest 112 = .ok (.iadd, 1) := by decide +kernel
theorem dX9_digest_113 : decode cX9_digest 113 = .ok (.iaload, 1) := by decide +kernel
theorem dX9_digest_114 : decode cX9_digest 114 = .ok (.i2l, 1) := by decide +kernel
theorem dX9_digest_115 : decode cX9_digest 115 = .ok (.ladd, 1) := by decide +kernel
theorem dX9_digest_116 : decode cX9_digest 116 = .ok (.lstore_n 1, 1) := by decide +kernel
theorem dX9_digest_117 : decode cX9_digest 117 = .ok (.ldc2_w 347, 3) := by decide +kernel
theorem dX9_digest_120 : decode cX9_digest 120 = .ok (.lload_n 1, 1) := by decide +kernel
theorem dX9_digest_121 : decode cX9_digest 121 = .ok (.lmul, 1) := by decide +kernel
theorem dX9_digest_122 : decode cX9_digest 122 = .ok (.aload_n 0, 1) := by decide +kernel
theorem dX9_digest_123 : decode cX9_digest 123 = .ok (.iload 4, 2) := by decide +kernel
theorem dX9_digest_125 : decode cX9_digest 125 = .ok (.iload 5, 2) := by decide +kernel
theorem dX9_digest_127 : decode cX9_digest 127 = .ok (.invokevirtual 210, 3) := by decide +kernel
theorem dX9_digest_130 : decode cX9_digest 130 = .ok (.i2l, 1) := by decide +kernel
theorem dX9_digest_131 : decode cX9_digest 131 = .ok (.ladd, 1) := by decide +kernel
theorem dX9_digest_132 : decode cX9_digest 132 = .ok (.lstore_n 1, 1) := by decide +kernel
theorem dX9_digest_133 : decode cX9_digest 133 = .ok (.iconst 0, 1) := by decide +kernel
theorem dX9_digest_134 : decode cX9_digest 134 = .ok (.istore 6, 2) := by decide +kernel
theorem dX9_digest_136 : decode cX9_digest 136 = .ok (.iload 6, 2) := by decide +kernel
theorem dX9_digest_138 : decode cX9_digest 138 = .ok (.aload_n 0, 1) := by decide +kernel
theorem dX9_digest_139 : decode cX9_digest 139 = .ok (.getfield 28, 3) := by decide +kernel
theorem dX9_digest_142 : decode cX9_digest 142 = .ok (.iconst 0, 1) := by decide +kernel
theorem dX9_digest_143 : decode cX9_digest 143 = .ok (.iaload, 1) := by decide +kernel
theorem dX9_digest_144 : decode cX9_digest 144 = .ok (.if_icmp .ge 53, 3) := by decide +kernel
theorem dX9_digest_147 : decode cX9_digest 147 = .ok (.ldc2_w 347, 3) := by decide +kernel
theorem dX9_digest_150 : decode cX9_digest 150 = .ok (.lload_n 1, 1) := by decide +kernel
theorem dX9_digest_151 : decode cX9_digest 151 = .ok (.lmul, 1) := by decide +kernel
theorem dX9_digest_152 : decode cX9_digest 152 = .ok (.aload_n 0, 1) := by decide +kernel
theorem dX9_digest_153 : decode cX9_digest 153 = .ok (.iload 4, 2) := by decide +kernel
theorem dX9_digest_155 : decode cX9_digest 155 = .ok (.iload 6, 2) := by decide +kernel
theorem dX9_digest_157 : decode cX9_digest 157 = .ok (.iload 5, 2) := by decide +kernel
theorem dX9_digest_159 : decode cX9_digest 159 = .ok (.invokevirtual 177, 3) := by decide +kernel
theorem dX9_digest_162 : decode cX9_digest 162 = .ok (.i2l, 1) := by decide +kernel
theorem dX9_digest_163 : decode cX9_digest 163 = .ok (.ladd, 1) := by decide +kernel
theorem dX9_digest_164 : decode cX9_digest 164 = .ok (.lstore_n 1, 1) := by decide +kernel
theorem dX9_digest_165 : decode cX9_digest 165 = .ok (.ldc2_w 347, 3) := by decide +kernel
theorem dX9_digest_168 : decode cX9_digest 168 = .ok (.lload_n 1, 1) := by decide +kernel
theorem dX9_digest_169 : decode cX9_digest 169 = .ok (.lmul, 1) := by decide +kernel
theorem dX9_digest_170 : decode cX9_digest 170 = .ok (.aload_n 0, 1) := by decide +kernel
theorem dX9_digest_171 : decode cX9_digest 171 = .ok (.getfield 46, 3) := by decide +kernel
theorem dX9_digest_174 : decode cX9_digest 174 = .ok (.bipush 12, 2) := by decide +kernel
theorem dX9_digest_176 : decode cX9_digest 176 = .ok (.iload 4, 2) := by decide +kernel
theorem dX9_digest_178 : decode cX9_digest 178 = .ok (.imul, 1) := by decide +kernel
theorem dX9_digest_179 : decode cX9_digest 179 = .ok (.iconst 4, 1) := by decide +kernel
theorem dX9_digest_180 : decode cX9_digest 180 = .ok (.iload 5, 2) := by decide +kernel
theorem dX9_digest_182 : decode cX9_digest 182 = .ok (.imul, 1) := by decide +kernel
theorem dX9_digest_183 : decode cX9_digest 183 = .ok (.iadd, 1) := by decide +kernel
theorem dX9_digest_184 : decode cX9_digest 184 = .ok (.iload 6, 2) := by decide +kernel
theorem dX9_digest_186 : decode cX9_digest 186 = .ok (.iadd, 1) := by decide +kernel
theorem dX9_digest_187 : decode cX9_digest 187 = .ok (.iaload, 1) := by decide +kernel
theorem dX9_digest_188 : decode cX9_digest 188 = .ok (.i2l, 1) := by decide +kernel
theorem dX9_digest_189 : decode cX9_digest 189 = .ok (.ladd, 1) := by decide +kernel
theorem dX9_digest_190 : decode cX9_digest 190 = .ok (.lstore_n 1, 1) := by decide +kernel
theorem dX9_digest_191 : decode cX9_digest 191 = .ok (.iinc 6 1, 3) := by decide +kernel
theorem dX9_digest_194 : decode cX9_digest 194 = .ok (.goto (-58), 3) := by decide +kernel
theorem dX9_digest_197 : decode cX9_digest 197 = .ok (.iinc 3 1, 3) := by decide +kernel
theorem dX9_digest_200 : decode cX9_digest 200 = .ok (.goto (-137), 3) := by decide +kernel
theorem dX9_digest_203 : decode cX9_digest 203 = .ok (.ldc2_w 347, 3) := by decide +kernel
theorem dX9_digest_206 : decode cX9_digest 206 = .ok (.lload_n 1, 1) := by decide +kernel
theorem dX9_digest_207 : decode cX9_digest 207 = .ok (.lmul, 1) := by decide +kernel
theorem dX9_digest_208 : decode cX9_digest 208 = .ok (.aload_n 0, 1) := by decide +kernel
theorem dX9_digest_209 : decode cX9_digest 209 = .ok (.invokevirtual 213, 3) := by decide +kernel
theorem dX9_digest_212 : decode cX9_digest 212 = .ok (.i2l, 1) := by decide +kernel
theorem dX9_digest_213 : decode cX9_digest 213 = .ok (.ladd, 1) := by decide +kernel
theorem dX9_digest_214 : decode cX9_digest 214 = .ok (.lstore_n 1, 1) := by decide +kernel
theorem dX9_digest_215 : decode cX9_digest 215 = .ok (.aload_n 0, 1) := by decide +kernel
theorem dX9_digest_216 : decode cX9_digest 216 = .ok (.invokevirtual 207, 3) := by decide +kernel
theorem dX9_digest_219 : decode cX9_digest 219 = .ok (.iconst 0, 1) := by decide +kernel
theorem dX9_digest_220 : decode cX9_digest 220 = .ok (.istore_n 3, 1) := by decide +kernel
theorem dX9_digest_221 : decode cX9_digest 221 = .ok (.iload_n 3, 1) := by decide +kernel
theorem dX9_digest_222 : decode cX9_digest 222 = .ok (.bipush 8, 2) := by decide +kernel
theorem dX9_digest_224 : decode cX9_digest 224 = .ok (.if_icmp .ge 37, 3) := by decide +kernel
theorem dX9_digest_227 : decode cX9_digest 227 = .ok (.ldc2_w 347, 3) := by decide +kernel
theorem dX9_digest_230 : decode cX9_digest 230 = .ok (.lload_n 1, 1) := by decide +kernel
theorem dX9_digest_231 : decode cX9_digest 231 = .ok (.lmul, 1) := by decide +kernel
theorem dX9_digest_232 : decode cX9_digest 232 = .ok (.aload_n 0, 1) := by decide +kernel
theorem dX9_digest_233 : decode cX9_digest 233 = .ok (.iload_n 3, 1) := by decide +kernel
theorem dX9_digest_234 : decode cX9_digest 234 = .ok (.bipush 9, 2) := by decide +kernel
theorem dX9_digest_236 : decode cX9_digest 236 = .ok (.invokevirtual 226, 3) := by decide +kernel
theorem dX9_digest_239 : decode cX9_digest 239 = .ok (.i2l, 1) := by decide +kernel
theorem dX9_digest_240 : decode cX9_digest 240 = .ok (.ladd, 1) := by decide +kernel
theorem dX9_digest_241 : decode cX9_digest 241 = .ok (.lstore_n 1, 1) := by decide +kernel
theorem dX9_digest_242 : decode cX9_digest 242 = .ok (.ldc2_w 347, 3) := by decide +kernel
theorem dX9_digest_245 : decode cX9_digest 245 = .ok (.lload_n 1, 1) := by decide +kernel
theorem dX9_digest_246 : decode cX9_digest 246 = .ok (.lmul, 1) := by decide +kernel
theorem dX9_digest_247 : decode cX9_digest 247 = .ok (.aload_n 0, 1) := by decide +kernel
theorem dX9_digest_248 : decode cX9_digest 248 = .ok (.iload_n 3, 1) := by decide +kernel
theorem dX9_digest_249 : decode cX9_digest 249 = .ok (.invokevirtual 352, 3) := by decide +kernel
theorem dX9_digest_252 : decode cX9_digest 252 = .ok (.i2l, 1) := by decide +kernel
theorem dX9_digest_253 : decode cX9_digest 253 = .ok (.ladd, 1) := by decide +kernel
theorem dX9_digest_254 : decode cX9_digest 254 = .ok (.lstore_n 1, 1) := by decide +kernel
theorem dX9_digest_255 : decode cX9_digest 255 = .ok (.iinc 3 1, 3) := by decide +kernel
theorem dX9_digest_258 : decode cX9_digest 258 = .ok (.goto (-37), 3) := by decide +kernel
theorem dX9_digest_261 : decode cX9_digest 261 = .ok (.iconst 0, 1) := by decide +kernel
theorem dX9_digest_262 : decode cX9_digest 262 = .ok (.istore_n 3, 1) := by decide +kernel
theorem dX9_digest_263 : decode cX9_digest 263 = .ok (.iload_n 3, 1) := by decide +kernel
theorem dX9_digest_264 : decode cX9_digest 264 = .ok (.iconst 2, 1) := by decide +kernel
theorem dX9_digest_265 : decode cX9_digest 265 = .ok (.if_icmp .ge 22, 3) := by decide +kernel
theorem dX9_digest_268 : decode cX9_digest 268 = .ok (.ldc2_w 347, 3) := by decide +kernel
theorem dX9_digest_271 : decode cX9_digest 271 = .ok (.lload_n 1, 1) := by decide +kernel
theorem dX9_digest_272 : decode cX9_digest 272 = .ok (.lmul, 1) := by decide +kernel
theorem dX9_digest_273 : decode cX9_digest 273 = .ok (.aload_n 0, 1) := by decide +kernel
theorem dX9_digest_274 : decode cX9_digest 274 = .ok (.iload_n 3, 1) := by decide +kernel
theorem dX9_digest_275 : decode cX9_digest 275 = .ok (.invokevirtual 230, 3) := by decide +kernel
theorem dX9_digest_278 : decode cX9_digest 278 = .ok (.i2l, 1) := by decide +kernel
theorem dX9_digest_279 : decode cX9_digest 279 = .ok (.ladd, 1) := by decide +kernel
theorem dX9_digest_280 : decode cX9_digest 280 = .ok (.lstore_n 1, 1) := by decide +kernel
theorem dX9_digest_281 : decode cX9_digest 281 = .ok (.iinc 3 1, 3) := by decide +kernel
theorem dX9_digest_284 : decode cX9_digest 284 = .ok (.goto (-21), 3) := by decide +kernel
theorem dX9_digest_287 : decode cX9_digest 287 = .ok (.iconst 0, 1) := by decide +kernel
theorem dX9_digest_288 : decode cX9_digest 288 = .ok (.istore_n 3, 1) := by decide +kernel
theorem dX9_digest_289 : decode cX9_digest 289 = .ok (.iload_n 3, 1) := by decide +kernel
theorem dX9_digest_290 : decode cX9_digest 290 = .ok (.aload_n 0, 1) := by decide +kernel
theorem dX9_digest_291 : decode cX9_digest 291 = .ok (.getfield 217, 3) := by decide +kernel
theorem dX9_digest_294 : decode cX9_digest 294 = .ok (.if_icmp .ge 22, 3) := by decide +kernel
theorem dX9_digest_297 : decode cX9_digest 297 = .ok (.ldc2_w 347, 3) := by decide +kernel
theorem dX9_digest_300 : decode cX9_digest 300 = .ok (.lload_n 1, 1) := by decide +kernel
theorem dX9_digest_301 : decode cX9_digest 301 = .ok (.lmul, 1) := by decide +kernel
theorem dX9_digest_302 : decode cX9_digest 302 = .ok (.aload_n 0, 1) := by decide +kernel
theorem dX9_digest_303 : decode cX9_digest 303 = .ok (.iload_n 3, 1) := by decide +kernel
theorem dX9_digest_304 : decode cX9_digest 304 = .ok (.invokevirtual 236, 3) := by decide +kernel
theorem dX9_digest_307 : decode cX9_digest 307 = .ok (.i2l, 1) := by decide +kernel
theorem dX9_digest_308 : decode cX9_digest 308 = .ok (.ladd, 1) := by decide +kernel
theorem dX9_digest_309 : decode cX9_digest 309 = .ok (.lstore_n 1, 1) := by decide +kernel
theorem dX9_digest_310 : decode cX9_digest 310 = .ok (.iinc 3 1, 3) := by decide +kernel
theorem dX9_digest_313 : decode cX9_digest 313 = .ok (.goto (-24), 3) := by decide +kernel
theorem dX9_digest_316 : decode cX9_digest 316 = .ok (.ldc2_w 347, 3) := by decide +kernel
theorem dX9_digest_319 : decode cX9_digest 319 = .ok (.lload_n 1, 1) := by decide +kernel
theorem dX9_digest_320 : decode cX9_digest 320 = .ok (.lmul, 1) := by decide +kernel
theorem dX9_digest_321 : decode cX9_digest 321 = .ok (.aload_n 0, 1) := by decide +kernel
theorem dX9_digest_322 : decode cX9_digest 322 = .ok (.iconst 0, 1) := by decide +kernel
theorem dX9_digest_323 : decode cX9_digest 323 = .ok (.invokevirtual 355, 3) := by decide +kernel
theorem dX9_digest_326 : decode cX9_digest 326 = .ok (.i2l, 1) := by decide +kernel
theorem dX9_digest_327 : decode cX9_digest 327 = .ok (.ladd, 1) := by decide +kernel
theorem dX9_digest_328 : decode cX9_digest 328 = .ok (.lstore_n 1, 1) := by decide +kernel
theorem dX9_digest_329 : decode cX9_digest 329 = .ok (.ldc2_w 347, 3) := by decide +kernel
theorem dX9_digest_332 : decode cX9_digest 332 = .ok (.lload_n 1, 1) := by decide +kernel
theorem dX9_digest_333 : decode cX9_digest 333 = .ok (.lmul, 1) := by decide +kernel
theorem dX9_digest_334 : decode cX9_digest 334 = .ok (.aload_n 0, 1) := by decide +kernel
theorem dX9_digest_335 : decode cX9_digest 335 = .ok (.invokevirtual 260, 3) := by decide +kernel
theorem dX9_digest_338 : decode cX9_digest 338 = .ok (.i2l, 1) := by decide +kernel
theorem dX9_digest_339 : decode cX9_digest 339 = .ok (.ladd, 1) := by decide +kernel
theorem dX9_digest_340 : decode cX9_digest 340 = .ok (.lstore_n 1, 1) := by decide +kernel
theorem dX9_digest_341 : decode cX9_digest 341 = .ok (.iconst 0, 1) := by decide +kernel
theorem dX9_digest_342 : decode cX9_digest 342 = .ok (.istore_n 3, 1) := by decide +kernel
theorem dX9_digest_343 : decode cX9_digest 343 = .ok (.iload_n 3, 1) := by decide +kernel
theorem dX9_digest_344 : decode cX9_digest 344 = .ok (.aload_n 0, 1) := by decide +kernel
theorem dX9_digest_345 : decode cX9_digest 345 = .ok (.getfield 28, 3) := by decide +kernel
theorem dX9_digest_348 : decode cX9_digest 348 = .ok (.iconst 0, 1) := by decide +kernel
theorem dX9_digest_349 : decode cX9_digest 349 = .ok (.iaload, 1) := by decide +kernel
theorem dX9_digest_350 : decode cX9_digest 350 = .ok (.if_icmp .ge 42, 3) := by decide +kernel
theorem dX9_digest_353 : decode cX9_digest 353 = .ok (.aload_n 0, 1) := by decide +kernel
theorem dX9_digest_354 : decode cX9_digest 354 = .ok (.iload_n 3, 1) := by decide +kernel
theorem dX9_digest_355 : decode cX9_digest 355 = .ok (.invokevirtual 271, 3) := by decide +kernel
theorem dX9_digest_358 : decode cX9_digest 358 = .ok (.ldc2_w 347, 3) := by decide +kernel
theorem dX9_digest_361 : decode cX9_digest 361 = .ok (.lload_n 1, 1) := by decide +kernel
theorem dX9_digest_362 : decode cX9_digest 362 = .ok (.lmul, 1) := by decide +kernel
theorem dX9_digest_363 : decode cX9_digest 363 = .ok (.aload_n 0, 1) := by decide +kernel
theorem dX9_digest_364 : decode cX9_digest 364 = .ok (.getfield 64, 3) := by decide +kernel
theorem dX9_digest_367 : decode cX9_digest 367 = .ok (.iconst 0, 1) := by decide +kernel
theorem dX9_digest_368 : decode cX9_digest 368 = .ok (.iaload, 1) := by decide +kernel
theorem dX9_digest_369 : decode cX9_digest 369 = .ok (.i2l, 1) := by decide +kernel
theorem dX9_digest_370 : decode cX9_digest 370 = .ok (.ladd, 1) := by decide +kernel
theorem dX9_digest_371 : decode cX9_digest 371 = .ok (.lstore_n 1, 1) := by decide +kernel
theorem dX9_digest_372 : decode cX9_digest 372 = .ok (.ldc2_w 347, 3) := by decide +kernel
theorem dX9_digest_375 : decode cX9_digest 375 = .ok (.lload_n 1, 1) := by decide +kernel
theorem dX9_digest_376 : decode cX9_digest 376 = .ok (.lmul, 1) := by decide +kernel
theorem dX9_digest_377 : decode cX9_digest 377 = .ok (.aload_n 0, 1) := by decide +kernel
theorem dX9_digest_378 : decode cX9_digest 378 = .ok (.getfield 64, 3) := by decide +kernel
theorem dX9_digest_381 : decode cX9_digest 381 = .ok (.iconst 1, 1) := by decide +kernel
theorem dX9_digest_382 : decode cX9_digest 382 = .ok (.iaload, 1) := by decide +kernel
theorem dX9_digest_383 : decode cX9_digest 383 = .ok (.i2l, 1) := by decide +kernel
theorem dX9_digest_384 : decode cX9_digest 384 = .ok (.ladd, 1) := by decide +kernel
theorem dX9_digest_385 : decode cX9_digest 385 = .ok (.lstore_n 1, 1) := by decide +kernel
theorem dX9_digest_386 : decode cX9_digest 386 = .ok (.iinc 3 1, 3) := by decide +kernel
theorem dX9_digest_389 : decode cX9_digest 389 = .ok (.goto (-46), 3) := by decide +kernel
theorem dX9_digest_392 : decode cX9_digest 392 = .ok (.iconst 1, 1) := by decide +kernel
theorem dX9_digest_393 : decode cX9_digest 393 = .ok (.istore_n 3, 1) := by decide +kernel
theorem dX9_digest_394 : decode cX9_digest 394 = .ok (.iload_n 3, 1) := by decide +kernel
theorem dX9_digest_395 : decode cX9_digest 395 = .ok (.bipush 6, 2) := by decide +kernel
theorem dX9_digest_397 : decode cX9_digest 397 = .ok (.if_icmp .ge 39, 3) := by decide +kernel
theorem dX9_digest_400 : decode cX9_digest 400 = .ok (.iconst 0, 1) := by decide +kernel
theorem dX9_digest_401 : decode cX9_digest 401 = .ok (.istore 4, 2) := by decide +kernel
theorem dX9_digest_403 : decode cX9_digest 403 = .ok (.iload 4, 2) := by decide +kernel
theorem dX9_digest_405 : decode cX9_digest 405 = .ok (.iconst 2, 1) := by decide +kernel
theorem dX9_digest_406 : decode cX9_digest 406 = .ok (.if_icmp .ge 24, 3) := by decide +kernel
theorem dX9_digest_409 : decode cX9_digest 409 = .ok (.ldc2_w 347, 3) := by decide +kernel
theorem dX9_digest_412 : decode cX9_digest 412 = .ok (.lload_n 1, 1) := by decide +kernel
theorem dX9_digest_413 : decode cX9_digest 413 = .ok (.lmul, 1) := by decide +kernel
theorem dX9_digest_414 : decode cX9_digest 414 = .ok (.aload_n 0, 1) := by decide +kernel
theorem dX9_digest_415 : decode cX9_digest 415 = .ok (.iconst 0, 1) := by decide +kernel
theorem dX9_digest_416 : decode cX9_digest 416 = .ok (.iload_n 3, 1) := by decide +kernel
theorem dX9_digest_417 : decode cX9_digest 417 = .ok (.iload 4, 2) := by decide +kernel
theorem dX9_digest_419 : decode cX9_digest 419 = .ok (.invokevirtual 358, 3) := by decide +kernel
theorem dX9_digest_422 : decode cX9_digest 422 = .ok (.ladd, 1) := by decide +kernel
theorem dX9_digest_423 : decode cX9_digest 423 = .ok (.lstore_n 1, 1) := by decide +kernel
theorem dX9_digest_424 : decode cX9_digest 424 = .ok (.iinc 4 1, 3) := by decide +kernel
theorem dX9_digest_427 : decode cX9_digest 427 = .ok (.goto (-24), 3) := by decide +kernel
theorem dX9_digest_430 : decode cX9_digest 430 = .ok (.iinc 3 1, 3) := by decide +kernel
theorem dX9_digest_433 : decode cX9_digest 433 = .ok (.goto (-39), 3) := by decide +kernel
theorem dX9_digest_436 : decode cX9_digest 436 = .ok (.ldc2_w 347, 3) := by decide +kernel
theorem dX9_digest_439 : decode cX9_digest 439 = .ok (.lload_n 1, 1) := by decide +kernel
theorem dX9_digest_440 : decode cX9_digest 440 = .ok (.lmul, 1) := by decide +kernel
theorem dX9_digest_441 : decode cX9_digest 441 = .ok (.aload_n 0, 1) := by decide +kernel
theorem dX9_digest_442 : decode cX9_digest 442 = .ok (.invokevirtual 361, 3) := by decide +kernel
theorem dX9_digest_445 : decode cX9_digest 445 = .ok (.i2l, 1) := by decide +kernel
theorem dX9_digest_446 : decode cX9_digest 446 = .ok (.ladd, 1) := by decide +kernel
theorem dX9_digest_447 : decode cX9_digest 447 = .ok (.lstore_n 1, 1) := by decide +kernel
theorem dX9_digest_448 : decode cX9_digest 448 = .ok (.ldc2_w 347, 3) := by decide +kernel
theorem dX9_digest_451 : decode cX9_digest 451 = .ok (.lload_n 1, 1) := by decide +kernel
theorem dX9_digest_452 : decode cX9_digest 452 = .ok (.lmul, 1) := by decide +kernel
theorem dX9_digest_453 : decode cX9_digest 453 = .ok (.aload_n 0, 1) := by decide +kernel
theorem dX9_digest_454 : decode cX9_digest 454 = .ok (.invokevirtual 310, 3) := by decide +kernel
theorem dX9_digest_457 : decode cX9_digest 457 = .ok (.i2l, 1) := by decide +kernel
theorem dX9_digest_458 : decode cX9_digest 458 = .ok (.ladd, 1) := by decide +kernel
theorem dX9_digest_459 : decode cX9_digest 459 = .ok (.lstore_n 1, 1) := by decide +kernel
theorem dX9_digest_460 : decode cX9_digest 460 = .ok (.aload_n 0, 1) := by decide +kernel
theorem dX9_digest_461 : decode cX9_digest 461 = .ok (.invokevirtual 330, 3) := by decide +kernel
theorem dX9_digest_464 : decode cX9_digest 464 = .ok (.bipush (-2), 2) := by decide +kernel
theorem dX9_digest_466 : decode cX9_digest 466 = .ok (.istore_n 3, 1) := by decide +kernel
theorem dX9_digest_467 : decode cX9_digest 467 = .ok (.iload_n 3, 1) := by decide +kernel
theorem dX9_digest_468 : decode cX9_digest 468 = .ok (.iconst 3, 1) := by decide +kernel
theorem dX9_digest_469 : decode cX9_digest 469 = .ok (.if_icmp .ge 22, 3) := by decide +kernel
theorem dX9_digest_472 : decode cX9_digest 472 = .ok (.ldc2_w 347, 3) := by decide +kernel
theorem dX9_digest_475 : decode cX9_digest 475 = .ok (.lload_n 1, 1) := by decide +kernel
theorem dX9_digest_476 : decode cX9_digest 476 = .ok (.lmul, 1) := by decide +kernel
theorem dX9_digest_477 : decode cX9_digest 477 = .ok (.aload_n 0, 1) := by decide +kernel
theorem dX9_digest_478 : decode cX9_digest 478 = .ok (.iload_n 3, 1) := by decide +kernel
theorem dX9_digest_479 : decode cX9_digest 479 = .ok (.invokevirtual 333, 3) := by decide +kernel
theorem dX9_digest_482 : decode cX9_digest 482 = .ok (.i2l, 1) := by decide +kernel
theorem dX9_digest_483 : decode cX9_digest 483 = .ok (.ladd, 1) := by decide +kernel
theorem dX9_digest_484 : decode cX9_digest 484 = .ok (.lstore_n 1, 1) := by decide +kernel
theorem dX9_digest_485 : decode cX9_digest 485 = .ok (.iinc 3 1, 3) := by decide +kernel
theorem dX9_digest_488 : decode cX9_digest 488 = .ok (.goto (-21), 3) := by decide +kernel
theorem dX9_digest_491 : decode cX9_digest 491 = .ok (.ldc2_w 347, 3) := by decide +kernel
theorem dX9_digest_494 : decode cX9_digest 494 = .ok (.lload_n 1, 1) := by decide +kernel
theorem dX9_digest_495 : decode cX9_digest 495 = .ok (.lmul, 1) := by decide +kernel
theorem dX9_digest_496 : decode cX9_digest 496 = .ok (.aload_n 0, 1) := by decide +kernel
theorem dX9_digest_497 : decode cX9_digest 497 = .ok (.invokevirtual 339, 3) := by decide +kernel
theorem dX9_digest_500 : decode cX9_digest 500 = .ok (.i2l, 1) := by decide +kernel
theorem dX9_digest_501 : decode cX9_digest 501 = .ok (.ladd, 1) := by decide +kernel
theorem dX9_digest_502 : decode cX9_digest 502 = .ok (.lreturn, 1) := by decide +kernel

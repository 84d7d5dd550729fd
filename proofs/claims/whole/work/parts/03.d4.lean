theorem dX10_findRounds_0 : decode cX10_findRounds 0 = .ok (.aload_n 0, 1) := by decide +kernel
theorem dX10_findRounds_1 : decode cX10_findRounds 1 = .ok (.invokevirtual 238, 3) := by decide +kernel
theorem dX10_findRounds_4 : decode cX10_findRounds 4 = .ok (.iconst 0, 1) := by decide +kernel
theorem dX10_findRounds_5 : decode cX10_findRounds 5 = .ok (.istore_n 2, 1) := by decide +kernel
theorem dX10_findRounds_6 : decode cX10_findRounds 6 = .ok (.iload_n 2, 1) := by decide +kernel
theorem dX10_findRounds_7 : decode cX10_findRounds 7 = .ok (.bipush 15, 2) := by decide +kernel
theorem dX10_findRounds_9 : decode cX10_findRounds 9 = .ok (.if_icmp .ge 16, 3) := by decide +kernel
theorem dX10_findRounds_12 : decode cX10_findRounds 12 = .ok (.aload_n 0, 1) := by decide +kernel
theorem dX10_findRounds_13 : decode cX10_findRounds 13 = .ok (.getfield 108, 3) := by decide +kernel
theorem dX10_findRounds_16 : decode cX10_findRounds 16 = .ok (.iload_n 2, 1) := by decide +kernel
theorem dX10_findRounds_17 : decode cX10_findRounds 17 = .ok (.iconst 0, 1) := by decide +kernel
theorem dX10_findRounds_18 : decode cX10_findRounds 18 = .ok (.iastore, 1) := by decide +kernel
theorem dX10_findRounds_19 : decode cX10_findRounds 19 = .ok (.iinc 2 1, 3) := by decide +kernel
theorem dX10_findRounds_22 : decode cX10_findRounds 22 = .ok (.goto (-16), 3) := by decide +kernel
theorem dX10_findRounds_25 : decode cX10_findRounds 25 = .ok (.iconst (-1), 1) := by decide +kernel
theorem dX10_findRounds_26 : decode cX10_findRounds 26 = .ok (.istore_n 2, 1) := by decide +kernel
theorem dX10_findRounds_27 : decode cX10_findRounds 27 = .ok (.iconst 0, 1) := by decide +kernel
theorem dX10_findRounds_28 : decode cX10_findRounds 28 = .ok (.istore_n 3, 1) := by decide +kernel
theorem dX10_findRounds_29 : decode cX10_findRounds 29 = .ok (.aload_n 0, 1) := by decide +kernel
theorem dX10_findRounds_30 : decode cX10_findRounds 30 = .ok (.getfield 105, 3) := by decide +kernel
theorem dX10_findRounds_33 : decode cX10_findRounds 33 = .ok (.iconst 0, 1) := by decide +kernel
theorem dX10_findRounds_34 : decode cX10_findRounds 34 = .ok (.iconst 0, 1) := by decide +kernel
theorem dX10_findRounds_35 : decode cX10_findRounds 35 = .ok (.iastore, 1) := by decide +kernel
theorem dX10_findRounds_36 : decode cX10_findRounds 36 = .ok (.aload_n 0, 1) := by decide +kernel
theorem dX10_findRounds_37 : decode cX10_findRounds 37 = .ok (.getfield 99, 3) := by decide +kernel
theorem dX10_findRounds_40 : decode cX10_findRounds 40 = .ok (.iconst 0, 1) := by decide +kernel
theorem dX10_findRounds_41 : decode cX10_findRounds 41 = .ok (.iconst (-1), 1) := by decide +kernel
theorem dX10_findRounds_42 : decode cX10_findRounds 42 = .ok (.iastore, 1) := by decide +kernel
theorem dX10_findRounds_43 : decode cX10_findRounds 43 = .ok (.iload_n 3, 1) := by decide +kernel
theorem dX10_findRounds_44 : decode cX10_findRounds 44 = .ok (.ifCond .lt 226, 3) := by decide +kernel
theorem dX10_findRounds_47 : decode cX10_findRounds 47 = .ok (.iload_n 3, 1) := by decide +kernel
theorem dX10_findRounds_48 : decode cX10_findRounds 48 = .ok (.aload_n 0, 1) := by decide +kernel
theorem dX10_findRounds_49 : decode cX10_findRounds 49 = .ok (.getfield 232, 3) := by decide +kernel
theorem dX10_findRounds_52 : decode cX10_findRounds 52 = .ok (.if_icmp .ne 62, 3) := by decide +kernel
theorem dX10_findRounds_55 : decode cX10_findRounds 55 = .ok (.iload_n 2, 1) := by decide +kernel
theorem dX10_findRounds_56 : decode cX10_findRounds 56 = .ok (.ifCond .lt 13, 3) := by decide +kernel
theorem dX10_findRounds_59 : decode cX10_findRounds 59 = .ok (.aload_n 0, 1) := by decide +kernel
theorem dX10_findRounds_60 : decode cX10_findRounds 60 = .ok (.getfield 105, 3) := by decide +kernel
theorem dX10_findRounds_63 : decode cX10_findRounds 63 = .ok (.iload_n 3, 1) := by decide +kernel
theorem dX10_findRounds_64 : decode cX10_findRounds 64 = .ok (.iaload, 1) := by decide +kernel
theorem dX10_findRounds_65 : decode cX10_findRounds 65 = .ok (.iload_n 2, 1) := by decide +kernel
theorem dX10_findRounds_66 : decode cX10_findRounds 66 = .ok (.if_icmp .ge 42, 3) := by decide +kernel
theorem dX10_findRounds_69 : decode cX10_findRounds 69 = .ok (.aload_n 0, 1) := by decide +kernel
theorem dX10_findRounds_70 : decode cX10_findRounds 70 = .ok (.getfield 105, 3) := by decide +kernel
theorem dX10_findRounds_73 : decode cX10_findRounds 73 = .ok (.iload_n 3, 1) := by decide +kernel
theorem dX10_findRounds_74 : decode cX10_findRounds 74 = .ok (.iaload, 1) := by decide +kernel
theorem dX10_findRounds_75 : decode cX10_findRounds 75 = .ok (.istore_n 2, 1) := by decide +kernel
theorem dX10_findRounds_76 : decode cX10_findRounds 76 = .ok (.iconst 0, 1) := by decide +kernel
theorem dX10_findRounds_77 : decode cX10_findRounds 77 = .ok (.istore 4, 2) := by decide +kernel
theorem dX10_findRounds_79 : decode cX10_findRounds 79 = .ok (.iload 4, 2) := by decide +kernel
theorem dX10_findRounds_81 : decode cX10_findRounds 81 = .ok (.aload_n 0, 1) := by decide +kernel
theorem dX10_findRounds_82 : decode cX10_findRounds 82 = .ok (.getfield 232, 3) := by decide +kernel
theorem dX10_findRounds_85 : decode cX10_findRounds 85 = .ok (.if_icmp .ge 23, 3) := by decide +kernel
theorem dX10_findRounds_88 : decode cX10_findRounds 88 = .ok (.aload_n 0, 1) := by decide +kernel
theorem dX10_findRounds_89 : decode cX10_findRounds 89 = .ok (.getfield 102, 3) := by decide +kernel
theorem dX10_findRounds_92 : decode cX10_findRounds 92 = .ok (.iload 4, 2) := by decide +kernel
theorem dX10_findRounds_94 : decode cX10_findRounds 94 = .ok (.aload_n 0, 1) := by decide +kernel
theorem dX10_findRounds_95 : decode cX10_findRounds 95 = .ok (.getfield 99, 3) := by decide +kernel
theorem dX10_findRounds_98 : decode cX10_findRounds 98 = .ok (.iload 4, 2) := by decide +kernel
theorem dX10_findRounds_100 : decode cX10_findRounds 100 = .ok (.iaload, 1) := by decide +kernel
theorem dX10_findRounds_101 : decode cX10_findRounds 101 = .ok (.iastore, 1) := by decide +kernel
theorem dX10_findRounds_102 : decode cX10_findRounds 102 = .ok (.iinc 4 1, 3) := by decide +kernel
theorem dX10_findRounds_105 : decode cX10_findRounds 105 = .ok (.goto (-26), 3) := by decide +kernel
theorem dX10_findRounds_108 : decode cX10_findRounds 108 = .ok (.iinc 3 (-1), 3) := by decide +kernel
theorem dX10_findRounds_111 : decode cX10_findRounds 111 = .ok (.goto (-68), 3) := by decide +kernel
theorem dX10_findRounds_114 : decode cX10_findRounds 114 = .ok (.aload_n 0, 1) := by decide +kernel
theorem dX10_findRounds_115 : decode cX10_findRounds 115 = .ok (.getfield 99, 3) := by decide +kernel
theorem dX10_findRounds_118 : decode cX10_findRounds 118 = .ok (.iload_n 3, 1) := by decide +kernel
theorem dX10_findRounds_119 : decode cX10_findRounds 119 = .ok (.iaload, 1) := by decide +kernel
theorem dX10_findRounds_120 : decode cX10_findRounds 120 = .ok (.ifCond .lt 14, 3) := by decide +kernel
theorem dX10_findRounds_123 : decode cX10_findRounds 123 = .ok (.aload_n 0, 1) := by decide +kernel
theorem dX10_findRounds_124 : decode cX10_findRounds 124 = .ok (.aload_n 0, 1) := by decide +kernel
theorem dX10_findRounds_125 : decode cX10_findRounds 125 = .ok (.getfield 99, 3) := by decide +kernel
theorem dX10_findRounds_128 : decode cX10_findRounds 128 = .ok (.iload_n 3, 1) := by decide +kernel
theorem dX10_findRounds_129 : decode cX10_findRounds 129 = .ok (.iaload, 1) := by decide +kernel
theorem dX10_findRounds_130 : decode cX10_findRounds 130 = .ok (.iconst (-1), 1) := by decide +kernel
theorem dX10_findRounds_131 : decode cX10_findRounds 131 = .ok (.invokevirtual 241, 3) := by decide +kernel
theorem dX10_findRounds_134 : decode cX10_findRounds 134 = .ok (.aload_n 0, 1) := by decide +kernel
theorem dX10_findRounds_135 : decode cX10_findRounds 135 = .ok (.getfield 99, 3) := by decide +kernel
theorem dX10_findRounds_138 : decode cX10_findRounds 138 = .ok (.iload_n 3, 1) := by decide +kernel
theorem dX10_findRounds_139 : decode cX10_findRounds 139 = .ok (.iaload, 1) := by decide +kernel
theorem dX10_findRounds_140 : decode cX10_findRounds 140 = .ok (.iconst 1, 1) := by decide +kernel
theorem dX10_findRounds_141 : decode cX10_findRounds 141 = .ok (.iadd, 1) := by decide +kernel
theorem dX10_findRounds_142 : decode cX10_findRounds 142 = .ok (.istore 4, 2) := by decide +kernel
theorem dX10_findRounds_144 : decode cX10_findRounds 144 = .ok (.iload 4, 2) := by decide +kernel
theorem dX10_findRounds_146 : decode cX10_findRounds 146 = .ok (.bipush 40, 2) := by decide +kernel
theorem dX10_findRounds_148 : decode cX10_findRounds 148 = .ok (.if_icmp .gt 20, 3) := by decide +kernel
theorem dX10_findRounds_151 : decode cX10_findRounds 151 = .ok (.aload_n 0, 1) := by decide +kernel
theorem dX10_findRounds_152 : decode cX10_findRounds 152 = .ok (.iload_n 3, 1) := by decide +kernel
theorem dX10_findRounds_153 : decode cX10_findRounds 153 = .ok (.iload 4, 2) := by decide +kernel
theorem dX10_findRounds_155 : decode cX10_findRounds 155 = .ok (.iload_n 1, 1) := by decide +kernel
theorem dX10_findRounds_156 : decode cX10_findRounds 156 = .ok (.invokevirtual 245, 3) := by decide +kernel
theorem dX10_findRounds_159 : decode cX10_findRounds 159 = .ok (.ifCond .ne 9, 3) := by decide +kernel
theorem dX10_findRounds_162 : decode cX10_findRounds 162 = .ok (.iinc 4 1, 3) := by decide +kernel
theorem dX10_findRounds_165 : decode cX10_findRounds 165 = .ok (.goto (-21), 3) := by decide +kernel
theorem dX10_findRounds_168 : decode cX10_findRounds 168 = .ok (.iload 4, 2) := by decide +kernel
theorem dX10_findRounds_170 : decode cX10_findRounds 170 = .ok (.bipush 40, 2) := by decide +kernel
theorem dX10_findRounds_172 : decode cX10_findRounds 172 = .ok (.if_icmp .le 9, 3) := by decide +kernel
theorem dX10_findRounds_175 : decode cX10_findRounds 175 = .ok (.iinc 3 (-1), 3) := by decide +kernel
theorem dX10_findRounds_178 : decode cX10_findRounds 178 = .ok (.goto (-135), 3) := by decide +kernel
theorem dX10_findRounds_181 : decode cX10_findRounds 181 = .ok (.aload_n 0, 1) := by decide +kernel
theorem dX10_findRounds_182 : decode cX10_findRounds 182 = .ok (.getfield 99, 3) := by decide +kernel
theorem dX10_findRounds_185 : decode cX10_findRounds 185 = .ok (.iload_n 3, 1) := by decide +kernel
theorem dX10_findRounds_186 : decode cX10_findRounds 186 = .ok (.iload 4, 2) := by decide +kernel
theorem dX10_findRounds_188 : decode cX10_findRounds 188 = .ok (.iastore, 1) := by decide +kernel
theorem dX10_findRounds_189 : decode cX10_findRounds 189 = .ok (.aload_n 0, 1) := by decide +kernel
theorem dX10_findRounds_190 : decode cX10_findRounds 190 = .ok (.iload 4, 2) := by decide +kernel
theorem dX10_findRounds_192 : decode cX10_findRounds 192 = .ok (.iconst 1, 1) := by decide +kernel
theorem dX10_findRounds_193 : decode cX10_findRounds 193 = .ok (.invokevirtual 241, 3) := by decide +kernel
theorem dX10_findRounds_196 : decode cX10_findRounds 196 = .ok (.aload_n 0, 1) := by decide +kernel
theorem dX10_findRounds_197 : decode cX10_findRounds 197 = .ok (.getfield 105, 3) := by decide +kernel
theorem dX10_findRounds_200 : decode cX10_findRounds 200 = .ok (.iload_n 3, 1) := by decide +kernel
theorem dX10_findRounds_201 : decode cX10_findRounds 201 = .ok (.iconst 1, 1) := by decide +kernel
theorem dX10_findRounds_202 : decode cX10_findRounds 202 = .ok (.iadd, 1) := by decide +kernel
theorem dX10_findRounds_203 : decode cX10_findRounds 203 = .ok (.aload_n 0, 1) := by decide +kernel
theorem dX10_findRounds_204 : decode cX10_findRounds 204 = .ok (.getfield 105, 3) := by decide +kernel
theorem dX10_findRounds_207 : decode cX10_findRounds 207 = .ok (.iload_n 3, 1) := by decide +kernel
theorem dX10_findRounds_208 : decode cX10_findRounds 208 = .ok (.iaload, 1) := by decide +kernel
theorem dX10_findRounds_209 : decode cX10_findRounds 209 = .ok (.aload_n 0, 1) := by decide +kernel
theorem dX10_findRounds_210 : decode cX10_findRounds 210 = .ok (.getfield 93, 3) := by decide +kernel
theorem dX10_findRounds_213 : decode cX10_findRounds 213 = .ok (.bipush 6, 2) := by decide +kernel
theorem dX10_findRounds_215 : decode cX10_findRounds 215 = .ok (.iload_n 3, 1) := by decide +kernel
theorem dX10_findRounds_216 : decode cX10_findRounds 216 = .ok (.imul, 1) := by decide +kernel
theorem dX10_findRounds_217 : decode cX10_findRounds 217 = .ok (.iload 4, 2) := by decide +kernel
theorem dX10_findRounds_219 : decode cX10_findRounds 219 = .ok (.bipush 8, 2) := by decide +kernel
theorem dX10_findRounds_221 : decode cX10_findRounds 221 = .ok (.idiv, 1) := by decide +kernel
theorem dX10_findRounds_222 : decode cX10_findRounds 222 = .ok (.iadd, 1) := by decide +kernel
theorem dX10_findRounds_223 : decode cX10_findRounds 223 = .ok (.iaload, 1) := by decide +kernel
theorem dX10_findRounds_224 : decode cX10_findRounds 224 = .ok (.iadd, 1) := by decide +kernel
theorem dX10_findRounds_225 : decode cX10_findRounds 225 = .ok (.iastore, 1) := by decide +kernel
theorem dX10_findRounds_226 : decode cX10_findRounds 226 = .ok (.iload_n 2, 1) := by decide +kernel
theorem dX10_findRounds_227 : decode cX10_findRounds 227 = .ok (.ifCond .lt 24, 3) := by decide +kernel
theorem dX10_findRounds_230 : decode cX10_findRounds 230 = .ok (.aload_n 0, 1) := by decide +kernel
theorem dX10_findRounds_231 : decode cX10_findRounds 231 = .ok (.getfield 105, 3) := by decide +kernel
theorem dX10_findRounds_234 : decode cX10_findRounds 234 = .ok (.iload_n 3, 1) := by decide +kernel
theorem dX10_findRounds_235 : decode cX10_findRounds 235 = .ok (.iconst 1, 1) := by decide +kernel
theorem dX10_findRounds_236 : decode cX10_findRounds 236 = .ok (.iadd, 1) := by decide +kernel
theorem dX10_findRounds_237 : decode cX10_findRounds 237 = .ok (.iaload, 1) := by decide +kernel
theorem dX10_findRounds_238 : decode cX10_findRounds 238 = .ok (.aload_n 0, 1) := by decide +kernel
theorem dX10_findRounds_239 : decode cX10_findRounds 239 = .ok (.getfield 96, 3) := by decide +kernel
theorem dX10_findRounds_242 : decode cX10_findRounds 242 = .ok (.iload_n 3, 1) := by decide +kernel
theorem dX10_findRounds_243 : decode cX10_findRounds 243 = .ok (.iconst 1, 1) := by decide +kernel
theorem dX10_findRounds_244 : decode cX10_findRounds 244 = .ok (.iadd, 1) := by decide +kernel
theorem dX10_findRounds_245 : decode cX10_findRounds 245 = .ok (.iaload, 1) := by decide +kernel
theorem dX10_findRounds_246 : decode cX10_findRounds 246 = .ok (.iadd, 1) := by decide +kernel
theorem dX10_findRounds_247 : decode cX10_findRounds 247 = .ok (.iload_n 2, 1) := by decide +kernel
theorem dX10_findRounds_248 : decode cX10_findRounds 248 = .ok (.if_icmp .ge 19, 3) := by decide +kernel
theorem dX10_findRounds_251 : decode cX10_findRounds 251 = .ok (.iinc 3 1, 3) := by decide +kernel
theorem dX10_findRounds_254 : decode cX10_findRounds 254 = .ok (.iload_n 3, 1) := by decide +kernel
theorem dX10_findRounds_255 : decode cX10_findRounds 255 = .ok (.bipush 6, 2) := by decide +kernel
theorem dX10_findRounds_257 : decode cX10_findRounds 257 = .ok (.if_icmp .ge 10, 3) := by decide +kernel
theorem dX10_findRounds_260 : decode cX10_findRounds 260 = .ok (.aload_n 0, 1) := by decide +kernel
theorem dX10_findRounds_261 : decode cX10_findRounds 261 = .ok (.getfield 99, 3) := by decide +kernel
theorem dX10_findRounds_264 : decode cX10_findRounds 264 = .ok (.iload_n 3, 1) := by decide +kernel
theorem dX10_findRounds_265 : decode cX10_findRounds 265 = .ok (.iconst (-1), 1) := by decide +kernel
theorem dX10_findRounds_266 : decode cX10_findRounds 266 = .ok (.iastore, 1) := by decide +kernel
theorem dX10_findRounds_267 : decode cX10_findRounds 267 = .ok (.goto (-224), 3) := by decide +kernel
theorem dX10_findRounds_270 : decode cX10_findRounds 270 = .ok (.iload_n 2, 1) := by decide +kernel
theorem dX10_findRounds_271 : decode cX10_findRounds 271 = .ok (.ireturn, 1) := by decide +kernel
theorem dX10_wrongRounds_0 : decode cX10_wrongRounds 0 = .ok (.iload_n 1, 1) := by decide +kernel
theorem dX10_wrongRounds_1 : decode cX10_wrongRounds 1 = .ok (.iconst 1, 1) := by decide +kernel
theorem dX10_wrongRounds_2 : decode cX10_wrongRounds 2 = .ok (.if_icmp .ge 8, 3) := by decide +kernel
theorem dX10_wrongRounds_5 : decode cX10_wrongRounds 5 = .ok (.bipush (-4), 2) := by decide +kernel
theorem dX10_wrongRounds_7 : decode cX10_wrongRounds 7 = .ok (.goto 27, 3) := by decide +kernel
theorem dX10_wrongRounds_10 : decode cX10_wrongRounds 10 = .ok (.iload_n 1, 1) := by decide +kernel
theorem dX10_wrongRounds_11 : decode cX10_wrongRounds 11 = .ok (.iconst 3, 1) := by decide +kernel
theorem dX10_wrongRounds_12 : decode cX10_wrongRounds 12 = .ok (.if_icmp .gt 16, 3) := by decide +kernel
theorem dX10_wrongRounds_15 : decode cX10_wrongRounds 15 = .ok (.aload_n 0, 1) := by decide +kernel
theorem dX10_wrongRounds_16 : decode cX10_wrongRounds 16 = .ok (.getfield 179, 3) := by decide +kernel
theorem dX10_wrongRounds_19 : decode cX10_wrongRounds 19 = .ok (.bipush 7, 2) := by decide +kernel
theorem dX10_wrongRounds_21 : decode cX10_wrongRounds 21 = .ok (.iadd, 1) := by decide +kernel
theorem dX10_wrongRounds_22 : decode cX10_wrongRounds 22 = .ok (.sipush 1500, 3) := by decide +kernel
theorem dX10_wrongRounds_25 : decode cX10_wrongRounds 25 = .ok (.if_icmp .le 8, 3) := by decide +kernel
theorem dX10_wrongRounds_28 : decode cX10_wrongRounds 28 = .ok (.bipush (-6), 2) := by decide +kernel
theorem dX10_wrongRounds_30 : decode cX10_wrongRounds 30 = .ok (.goto 4, 3) := by decide +kernel
theorem dX10_wrongRounds_33 : decode cX10_wrongRounds 33 = .ok (.iconst 0, 1) := by decide +kernel
theorem dX10_wrongRounds_34 : decode cX10_wrongRounds 34 = .ok (.ireturn, 1) := by decide +kernel
theorem dX10_rounds_0 : decode cX10_rounds 0 = .ok (.aload_n 0, 1) := by decide +kernel
theorem dX10_rounds_1 : decode cX10_rounds 1 = .ok (.iload_n 1, 1) := by decide +kernel
theorem dX10_rounds_2 : decode cX10_rounds 2 = .ok (.invokevirtual 248, 3) := by decide +kernel
theorem dX10_rounds_5 : decode cX10_rounds 5 = .ok (.istore_n 2, 1) := by decide +kernel
theorem dX10_rounds_6 : decode cX10_rounds 6 = .ok (.iload_n 2, 1) := by decide +kernel
theorem dX10_rounds_7 : decode cX10_rounds 7 = .ok (.ifCond .ge 11, 3) := by decide +kernel
theorem dX10_rounds_10 : decode cX10_rounds 10 = .ok (.aload_n 0, 1) := by decide +kernel
theorem dX10_rounds_11 : decode cX10_rounds 11 = .ok (.iload_n 2, 1) := by decide +kernel
theorem dX10_rounds_12 : decode cX10_rounds 12 = .ok (.invokevirtual 175, 3) := by decide +kernel
theorem dX10_rounds_15 : decode cX10_rounds 15 = .ok (.goto 8, 3) := by decide +kernel
theorem dX10_rounds_18 : decode cX10_rounds 18 = .ok (.aload_n 0, 1) := by decide +kernel
theorem dX10_rounds_19 : decode cX10_rounds 19 = .ok (.iload_n 1, 1) := by decide +kernel
theorem dX10_rounds_20 : decode cX10_rounds 20 = .ok (.invokevirtual 251, 3) := by decide +kernel
theorem dX10_rounds_23 : decode cX10_rounds 23 = .ok (.ireturn, 1) := by decide +kernel
theorem dX10_roundOf_0 : decode cX10_roundOf 0 = .ok (.aload_n 0, 1) := by decide +kernel
theorem dX10_roundOf_1 : decode cX10_roundOf 1 = .ok (.iload_n 2, 1) := by decide +kernel
theorem dX10_roundOf_2 : decode cX10_roundOf 2 = .ok (.invokevirtual 196, 3) := by decide +kernel
theorem dX10_roundOf_5 : decode cX10_roundOf 5 = .ok (.ifCond .ne 9, 3) := by decide +kernel
theorem dX10_roundOf_8 : decode cX10_roundOf 8 = .ok (.aload_n 0, 1) := by decide +kernel
theorem dX10_roundOf_9 : decode cX10_roundOf 9 = .ok (.iconst (-1), 1) := by decide +kernel
theorem dX10_roundOf_10 : decode cX10_roundOf 10 = .ok (.invokevirtual 175, 3) := by decide +kernel
theorem dX10_roundOf_13 : decode cX10_roundOf 13 = .ok (.ireturn, 1) := by decide +kernel
theorem dX10_roundOf_14 : decode cX10_roundOf 14 = .ok (.iload_n 3, 1) := by decide +kernel
theorem dX10_roundOf_15 : decode cX10_roundOf 15 = .ok (.iconst 0, 1) := by decide +kernel
theorem dX10_roundOf_16 : decode cX10_roundOf 16 = .ok (.iconst 1, 1) := by decide +kernel
theorem dX10_roundOf_17 : decode cX10_roundOf 17 = .ok (.invokestatic 168, 3) := by decide +kernel
theorem dX10_roundOf_20 : decode cX10_roundOf 20 = .ok (.ifCond .ne 10, 3) := by decide +kernel
theorem dX10_roundOf_23 : decode cX10_roundOf 23 = .ok (.aload_n 0, 1) := by decide +kernel
theorem dX10_roundOf_24 : decode cX10_roundOf 24 = .ok (.bipush (-2), 2) := by decide +kernel
theorem dX10_roundOf_26 : decode cX10_roundOf 26 = .ok (.invokevirtual 175, 3) := by decide +kernel
theorem dX10_roundOf_29 : decode cX10_roundOf 29 = .ok (.ireturn, 1) := by decide +kernel
theorem dX10_roundOf_30 : decode cX10_roundOf 30 = .ok (.aload_n 0, 1) := by decide +kernel
theorem dX10_roundOf_31 : decode cX10_roundOf 31 = .ok (.iload_n 1, 1) := by decide +kernel
theorem dX10_roundOf_32 : decode cX10_roundOf 32 = .ok (.invokevirtual 248, 3) := by decide +kernel
theorem dX10_roundOf_35 : decode cX10_roundOf 35 = .ok (.istore 4, 2) := by decide +kernel
theorem dX10_roundOf_37 : decode cX10_roundOf 37 = .ok (.iload 4, 2) := by decide +kernel
theorem dX10_roundOf_39 : decode cX10_roundOf 39 = .ok (.ifCond .ge 10, 3) := by decide +kernel
theorem dX10_roundOf_42 : decode cX10_roundOf 42 = .ok (.aload_n 0, 1) := by decide +kernel
theorem dX10_roundOf_43 : decode cX10_roundOf 43 = .ok (.iload 4, 2) := by decide +kernel
theorem dX10_roundOf_45 : decode cX10_roundOf 45 = .ok (.invokevirtual 175, 3) := by decide +kernel
theorem dX10_roundOf_48 : decode cX10_roundOf 48 = .ok (.ireturn, 1) := by decide +kernel
theorem dX10_roundOf_49 : decode cX10_roundOf 49 = .ok (.aload_n 0, 1) := by decide +kernel
theorem dX10_roundOf_50 : decode cX10_roundOf 50 = .ok (.iload_n 1, 1) := by decide +kernel
theorem dX10_roundOf_51 : decode cX10_roundOf 51 = .ok (.invokevirtual 251, 3) := by decide +kernel
theorem dX10_roundOf_54 : decode cX10_roundOf 54 = .ok (.istore 5, 2) := by decide +kernel
theorem dX10_roundOf_56 : decode cX10_roundOf 56 = .ok (.bipush 40, 2) := by decide +kernel
theorem dX10_roundOf_58 : decode cX10_roundOf 58 = .ok (.istore 6, 2) := by decide +kernel
theorem dX10_roundOf_60 : decode cX10_roundOf 60 = .ok (.iconst 0, 1) := by decide +kernel
theorem dX10_roundOf_61 : decode cX10_roundOf 61 = .ok (.istore 7, 2) := by decide +kernel
theorem dX10_roundOf_63 : decode cX10_roundOf 63 = .ok (.iload 7, 2) := by decide +kernel
theorem dX10_roundOf_65 : decode cX10_roundOf 65 = .ok (.aload_n 0, 1) := by decide +kernel
theorem dX10_roundOf_66 : decode cX10_roundOf 66 = .ok (.getfield 232, 3) := by decide +kernel
theorem dX10_roundOf_69 : decode cX10_roundOf 69 = .ok (.if_icmp .ge 34, 3) := by decide +kernel
theorem dX10_roundOf_72 : decode cX10_roundOf 72 = .ok (.aload_n 0, 1) := by decide +kernel
theorem dX10_roundOf_73 : decode cX10_roundOf 73 = .ok (.getfield 90, 3) := by decide +kernel
theorem dX10_roundOf_76 : decode cX10_roundOf 76 = .ok (.iload 7, 2) := by decide +kernel
theorem dX10_roundOf_78 : decode cX10_roundOf 78 = .ok (.iaload, 1) := by decide +kernel
theorem dX10_roundOf_79 : decode cX10_roundOf 79 = .ok (.iload_n 2, 1) := by decide +kernel
theorem dX10_roundOf_80 : decode cX10_roundOf 80 = .ok (.if_icmp .ne 13, 3) := by decide +kernel
theorem dX10_roundOf_83 : decode cX10_roundOf 83 = .ok (.aload_n 0, 1) := by decide +kernel
theorem dX10_roundOf_84 : decode cX10_roundOf 84 = .ok (.getfield 102, 3) := by decide +kernel
theorem dX10_roundOf_87 : decode cX10_roundOf 87 = .ok (.iload 7, 2) := by decide +kernel
theorem dX10_roundOf_89 : decode cX10_roundOf 89 = .ok (.iaload, 1) := by decide +kernel
theorem dX10_roundOf_90 : decode cX10_roundOf 90 = .ok (.goto 5, 3) := by decide +kernel
theorem dX10_roundOf_93 : decode cX10_roundOf 93 = .ok (.iload 6, 2) := by decide +kernel
theorem dX10_roundOf_95 : decode cX10_roundOf 95 = .ok (.istore 6, 2) := by decide +kernel
theorem dX10_roundOf_97 : decode cX10_roundOf 97 = .ok (.iinc 7 1, 3) := by decide +kernel
theorem dX10_roundOf_100 : decode cX10_roundOf 100 = .ok (.goto (-37), 3) := by decide +kernel
theorem dX10_roundOf_103 : decode cX10_roundOf 103 = .ok (.iload 6, 2) := by decide +kernel
theorem dX10_roundOf_105 : decode cX10_roundOf 105 = .ok (.bipush 40, 2) := by decide +kernel
theorem dX10_roundOf_107 : decode cX10_roundOf 107 = .ok (.if_icmp .ne 16, 3) := by decide +kernel
theorem dX10_roundOf_110 : decode cX10_roundOf 110 = .ok (.iload_n 3, 1) := by decide +kernel
theorem dX10_roundOf_111 : decode cX10_roundOf 111 = .ok (.ifCond .ne 8, 3) := by decide +kernel
theorem dX10_roundOf_114 : decode cX10_roundOf 114 = .ok (.bipush (-9), 2) := by decide +kernel
theorem dX10_roundOf_116 : decode cX10_roundOf 116 = .ok (.goto 29, 3) := by decide +kernel
theorem dX10_roundOf_119 : decode cX10_roundOf 119 = .ok (.iconst 0, 1) := by decide +kernel
theorem dX10_roundOf_120 : decode cX10_roundOf 120 = .ok (.goto 25, 3) := by decide +kernel
theorem dX10_roundOf_123 : decode cX10_roundOf 123 = .ok (.iload_n 3, 1) := by decide +kernel
theorem dX10_roundOf_124 : decode cX10_roundOf 124 = .ok (.ifCond .ne 16, 3) := by decide +kernel
theorem dX10_roundOf_127 : decode cX10_roundOf 127 = .ok (.aload_n 0, 1) := by decide +kernel
theorem dX10_roundOf_128 : decode cX10_roundOf 128 = .ok (.getfield 179, 3) := by decide +kernel
theorem dX10_roundOf_131 : decode cX10_roundOf 131 = .ok (.iload 6, 2) := by decide +kernel
theorem dX10_roundOf_133 : decode cX10_roundOf 133 = .ok (.bipush 8, 2) := by decide +kernel
theorem dX10_roundOf_135 : decode cX10_roundOf 135 = .ok (.idiv, 1) := by decide +kernel
theorem dX10_roundOf_136 : decode cX10_roundOf 136 = .ok (.iadd, 1) := by decide +kernel
theorem dX10_roundOf_137 : decode cX10_roundOf 137 = .ok (.goto 8, 3) := by decide +kernel
theorem dX10_roundOf_140 : decode cX10_roundOf 140 = .ok (.iload 6, 2) := by decide +kernel
theorem dX10_roundOf_142 : decode cX10_roundOf 142 = .ok (.bipush 8, 2) := by decide +kernel
theorem dX10_roundOf_144 : decode cX10_roundOf 144 = .ok (.irem, 1) := by decide +kernel
theorem dX10_roundOf_145 : decode cX10_roundOf 145 = .ok (.ireturn, 1) := by decide +kernel
theorem dX10_isDouble_0 : decode cX10_isDouble 0 = .ok (.aload_n 0, 1) := by decide +kernel
theorem dX10_isDouble_1 : decode cX10_isDouble 1 = .ok (.getfield 53, 3) := by decide +kernel
theorem dX10_isDouble_4 : decode cX10_isDouble 4 = .ok (.iload_n 1, 1) := by decide +kernel
theorem dX10_isDouble_5 : decode cX10_isDouble 5 = .ok (.iaload, 1) := by decide +kernel
theorem dX10_isDouble_6 : decode cX10_isDouble 6 = .ok (.aload_n 0, 1) := by decide +kernel
theorem dX10_isDouble_7 : decode cX10_isDouble 7 = .ok (.getfield 53, 3) := by decide +kernel
theorem dX10_isDouble_10 : decode cX10_isDouble 10 = .ok (.iload_n 2, 1) := by decide +kernel
theorem dX10_isDouble_11 : decode cX10_isDouble 11 = .ok (.iaload, 1) := by decide +kernel
theorem dX10_isDouble_12 : decode cX10_isDouble 12 = .ok (.if_icmp .ne 61, 3) := by decide +kernel
theorem dX10_isDouble_15 : decode cX10_isDouble 15 = .ok (.aload_n 0, 1) := by decide +kernel
theorem dX10_isDouble_16 : decode cX10_isDouble 16 = .ok (.getfield 59, 3) := by decide +kernel
theorem dX10_isDouble_19 : decode cX10_isDouble 19 = .ok (.iload_n 1, 1) := by decide +kernel
theorem dX10_isDouble_20 : decode cX10_isDouble 20 = .ok (.iaload, 1) := by decide +kernel
theorem dX10_isDouble_21 : decode cX10_isDouble 21 = .ok (.aload_n 0, 1) := by decide +kernel
theorem dX10_isDouble_22 : decode cX10_isDouble 22 = .ok (.getfield 59, 3) := by decide +kernel
theorem dX10_isDouble_25 : decode cX10_isDouble 25 = .ok (.iload_n 2, 1) := by decide +kernel
theorem dX10_isDouble_26 : decode cX10_isDouble 26 = .ok (.iaload, 1) := by decide +kernel
theorem dX10_isDouble_27 : decode cX10_isDouble 27 = .ok (.if_icmp .ne 46, 3) := by decide +kernel
theorem dX10_isDouble_30 : decode cX10_isDouble 30 = .ok (.aload_n 0, 1) := by decide +kernel
theorem dX10_isDouble_31 : decode cX10_isDouble 31 = .ok (.getfield 56, 3) := by decide +kernel
theorem dX10_isDouble_34 : decode cX10_isDouble 34 = .ok (.iload_n 1, 1) := by decide +kernel
theorem dX10_isDouble_35 : decode cX10_isDouble 35 = .ok (.iaload, 1) := by decide +kernel
theorem dX10_isDouble_36 : decode cX10_isDouble 36 = .ok (.aload_n 0, 1) := by decide +kernel
theorem dX10_isDouble_37 : decode cX10_isDouble 37 = .ok (.getfield 56, 3) := by decide +kernel
theorem dX10_isDouble_40 : decode cX10_isDouble 40 = .ok (.iload_n 2, 1) := by decide +kernel
theorem dX10_isDouble_41 : decode cX10_isDouble 41 = .ok (.iaload, 1) := by decide +kernel
theorem dX10_isDouble_42 : decode cX10_isDouble 42 = .ok (.if_icmp .eq 31, 3) := by decide +kernel
theorem dX10_isDouble_45 : decode cX10_isDouble 45 = .ok (.aload_n 0, 1) := by decide +kernel
theorem dX10_isDouble_46 : decode cX10_isDouble 46 = .ok (.iload_n 1, 1) := by decide +kernel
theorem dX10_isDouble_47 : decode cX10_isDouble 47 = .ok (.aload_n 0, 1) := by decide +kernel
theorem dX10_isDouble_48 : decode cX10_isDouble 48 = .ok (.getfield 179, 3) := by decide +kernel
theorem dX10_isDouble_51 : decode cX10_isDouble 51 = .ok (.invokevirtual 208, 3) := by decide +kernel
theorem dX10_isDouble_54 : decode cX10_isDouble 54 = .ok (.ifCond .eq 19, 3) := by decide +kernel
theorem dX10_isDouble_57 : decode cX10_isDouble 57 = .ok (.aload_n 0, 1) := by decide +kernel
theorem dX10_isDouble_58 : decode cX10_isDouble 58 = .ok (.iload_n 2, 1) := by decide +kernel
theorem dX10_isDouble_59 : decode cX10_isDouble 59 = .ok (.aload_n 0, 1) := by decide +kernel
theorem dX10_isDouble_60 : decode cX10_isDouble 60 = .ok (.getfield 179, 3) := by decide +kernel
theorem dX10_isDouble_63 : decode cX10_isDouble 63 = .ok (.invokevirtual 208, 3) := by decide +kernel
theorem dX10_isDouble_66 : decode cX10_isDouble 66 = .ok (.ifCond .eq 7, 3) := by decide +kernel
theorem dX10_isDouble_69 : decode cX10_isDouble 69 = .ok (.iconst 1, 1) := by decide +kernel
theorem dX10_isDouble_70 : decode cX10_isDouble 70 = .ok (.goto 4, 3) := by decide +kernel
theorem dX10_isDouble_73 : decode cX10_isDouble 73 = .ok (.iconst 0, 1) := by decide +kernel
theorem dX10_isDouble_74 : decode cX10_isDouble 74 = .ok (.ireturn, 1) := by decide +kernel
theorem dX10_doubles_0 : decode cX10_doubles 0 = .ok (.iconst 0, 1) := by decide +kernel
theorem dX10_doubles_1 : decode cX10_doubles 1 = .ok (.istore_n 1, 1) := by decide +kernel
theorem dX10_doubles_2 : decode cX10_doubles 2 = .ok (.iconst 0, 1) := by decide +kernel
theorem dX10_doubles_3 : decode cX10_doubles 3 = .ok (.istore_n 2, 1) := by decide +kernel
theorem dX10_doubles_4 : decode cX10_doubles 4 = .ok (.iload_n 2, 1) := by decide +kernel
theorem dX10_doubles_5 : decode cX10_doubles 5 = .ok (.aload_n 0, 1) := by decide +kernel
theorem dX10_doubles_6 : decode cX10_doubles 6 = .ok (.getfield 172, 3) := by decide +kernel
theorem dX10_doubles_9 : decode cX10_doubles 9 = .ok (.if_icmp .ge 39, 3) := by decide +kernel
theorem dX10_doubles_12 : decode cX10_doubles 12 = .ok (.iconst 0, 1) := by decide +kernel
theorem dX10_doubles_13 : decode cX10_doubles 13 = .ok (.istore_n 3, 1) := by decide +kernel
theorem dX10_doubles_14 : decode cX10_doubles 14 = .ok (.iload_n 3, 1) := by decide +kernel
theorem dX10_doubles_15 : decode cX10_doubles 15 = .ok (.iload_n 2, 1) := by decide +kernel
theorem dX10_doubles_16 : decode cX10_doubles 16 = .ok (.if_icmp .ge 26, 3) := by decide +kernel
theorem dX10_doubles_19 : decode cX10_doubles 19 = .ok (.iload_n 1, 1) := by decide +kernel
theorem dX10_doubles_20 : decode cX10_doubles 20 = .ok (.aload_n 0, 1) := by decide +kernel
theorem dX10_doubles_21 : decode cX10_doubles 21 = .ok (.iload_n 2, 1) := by decide +kernel
theorem dX10_doubles_22 : decode cX10_doubles 22 = .ok (.iload_n 3, 1) := by decide +kernel
theorem dX10_doubles_23 : decode cX10_doubles 23 = .ok (.invokevirtual 254, 3) := by decide +kernel
theorem dX10_doubles_26 : decode cX10_doubles 26 = .ok (.ifCond .eq 7, 3) := by decide +kernel
theorem dX10_doubles_29 : decode cX10_doubles 29 = .ok (.iconst 1, 1) := by decide +kernel
theorem dX10_doubles_30 : decode cX10_doubles 30 = .ok (.goto 4, 3) := by decide +kernel
theorem dX10_doubles_33 : decode cX10_doubles 33 = .ok (.iconst 0, 1) := by decide +kernel
theorem dX10_doubles_34 : decode cX10_doubles 34 = .ok (.iadd, 1) := by decide +kernel
theorem dX10_doubles_35 : decode cX10_doubles 35 = .ok (.istore_n 1, 1) := by decide +kernel
theorem dX10_doubles_36 : decode cX10_doubles 36 = .ok (.iinc 3 1, 3) := by decide +kernel
theorem dX10_doubles_39 : decode cX10_doubles 39 = .ok (.goto (-25), 3) := by decide +kernel
theorem dX10_doubles_42 : decode cX10_doubles 42 = .ok (.iinc 2 1, 3) := by decide +kernel
theorem dX10_doubles_45 : decode cX10_doubles 45 = .ok (.goto (-41), 3) := by decide +kernel
theorem dX10_doubles_48 : decode cX10_doubles 48 = .ok (.iload_n 1, 1) := by decide +kernel
theorem dX10_doubles_49 : decode cX10_doubles 49 = .ok (.ireturn, 1) := by decide +kernel
theorem dX10_findDoubles_0 : decode cX10_findDoubles 0 = .ok (.iconst 0, 1) := by decide +kernel
theorem dX10_findDoubles_1 : decode cX10_findDoubles 1 = .ok (.istore_n 1, 1) := by decide +kernel
theorem dX10_findDoubles_2 : decode cX10_findDoubles 2 = .ok (.iload_n 1, 1) := by decide +kernel
theorem dX10_findDoubles_3 : decode cX10_findDoubles 3 = .ok (.bipush 25, 2) := by decide +kernel
theorem dX10_findDoubles_5 : decode cX10_findDoubles 5 = .ok (.if_icmp .ge 16, 3) := by decide +kernel
theorem dX10_findDoubles_8 : decode cX10_findDoubles 8 = .ok (.aload_n 0, 1) := by decide +kernel
theorem dX10_findDoubles_9 : decode cX10_findDoubles 9 = .ok (.getfield 111, 3) := by decide +kernel
theorem dX10_findDoubles_12 : decode cX10_findDoubles 12 = .ok (.iload_n 1, 1) := by decide +kernel
theorem dX10_findDoubles_13 : decode cX10_findDoubles 13 = .ok (.lconst 0, 1) := by decide +kernel
theorem dX10_findDoubles_14 : decode cX10_findDoubles 14 = .ok (.lastore, 1) := by decide +kernel
theorem dX10_findDoubles_15 : decode cX10_findDoubles 15 = .ok (.iinc 1 1, 3) := by decide +kernel
theorem dX10_findDoubles_18 : decode cX10_findDoubles 18 = .ok (.goto (-16), 3) := by decide +kernel
theorem dX10_findDoubles_21 : decode cX10_findDoubles 21 = .ok (.iconst 0, 1) := by decide +kernel
theorem dX10_findDoubles_22 : decode cX10_findDoubles 22 = .ok (.istore_n 1, 1) := by decide +kernel
theorem dX10_findDoubles_23 : decode cX10_findDoubles 23 = .ok (.iload_n 1, 1) := by decide +kernel
theorem dX10_findDoubles_24 : decode cX10_findDoubles 24 = .ok (.iconst 5, 1) := by decide +kernel
theorem dX10_findDoubles_25 : decode cX10_findDoubles 25 = .ok (.if_icmp .ge 23, 3) := by decide +kernel
theorem dX10_findDoubles_28 : decode cX10_findDoubles 28 = .ok (.aload_n 0, 1) := by decide +kernel
theorem dX10_findDoubles_29 : decode cX10_findDoubles 29 = .ok (.getfield 115, 3) := by decide +kernel
theorem dX10_findDoubles_32 : decode cX10_findDoubles 32 = .ok (.iload_n 1, 1) := by decide +kernel
theorem dX10_findDoubles_33 : decode cX10_findDoubles 33 = .ok (.lconst 0, 1) := by decide +kernel
theorem dX10_findDoubles_34 : decode cX10_findDoubles 34 = .ok (.lastore, 1) := by decide +kernel
theorem dX10_findDoubles_35 : decode cX10_findDoubles 35 = .ok (.aload_n 0, 1) := by decide +kernel
theorem dX10_findDoubles_36 : decode cX10_findDoubles 36 = .ok (.getfield 118, 3) := by decide +kernel
theorem dX10_findDoubles_39 : decode cX10_findDoubles 39 = .ok (.iload_n 1, 1) := by decide +kernel
theorem dX10_findDoubles_40 : decode cX10_findDoubles 40 = .ok (.iload_n 1, 1) := by decide +kernel
theorem dX10_findDoubles_41 : decode cX10_findDoubles 41 = .ok (.iastore, 1) := by decide +kernel
theorem dX10_findDoubles_42 : decode cX10_findDoubles 42 = .ok (.iinc 1 1, 3) := by decide +kernel
theorem dX10_findDoubles_45 : decode cX10_findDoubles 45 = .ok (.goto (-22), 3) := by decide +kernel
theorem dX10_findDoubles_48 : decode cX10_findDoubles 48 = .ok (.iconst 0, 1) := by decide +kernel
theorem dX10_findDoubles_49 : decode cX10_findDoubles 49 = .ok (.istore_n 1, 1) := by decide +kernel
theorem dX10_findDoubles_50 : decode cX10_findDoubles 50 = .ok (.iload_n 1, 1) := by decide +kernel
theorem dX10_findDoubles_51 : decode cX10_findDoubles 51 = .ok (.aload_n 0, 1) := by decide +kernel
theorem dX10_findDoubles_52 : decode cX10_findDoubles 52 = .ok (.getfield 172, 3) := by decide +kernel
theorem dX10_findDoubles_55 : decode cX10_findDoubles 55 = .ok (.if_icmp .ge 125, 3) := by decide +kernel
theorem dX10_findDoubles_58 : decode cX10_findDoubles 58 = .ok (.iconst 0, 1) := by decide +kernel
theorem dX10_findDoubles_59 : decode cX10_findDoubles 59 = .ok (.istore_n 2, 1) := by decide +kernel
theorem dX10_findDoubles_60 : decode cX10_findDoubles 60 = .ok (.iload_n 2, 1) := by decide +kernel
theorem dX10_findDoubles_61 : decode cX10_findDoubles 61 = .ok (.iload_n 1, 1) := by decide +kernel
theorem dX10_findDoubles_62 : decode cX10_findDoubles 62 = .ok (.if_icmp .ge 112, 3) := by decide +kernel
theorem dX10_findDoubles_65 : decode cX10_findDoubles 65 = .ok (.aload_n 0, 1) := by decide +kernel
theorem dX10_findDoubles_66 : decode cX10_findDoubles 66 = .ok (.iload_n 1, 1) := by decide +kernel
theorem dX10_findDoubles_67 : decode cX10_findDoubles 67 = .ok (.iload_n 2, 1) := by decide +kernel
theorem dX10_findDoubles_68 : decode cX10_findDoubles 68 = .ok (.invokevirtual 254, 3) := by decide +kernel
theorem dX10_findDoubles_71 : decode cX10_findDoubles 71 = .ok (.ifCond .eq 97, 3) := by decide +kernel
theorem dX10_findDoubles_74 : decode cX10_findDoubles 74 = .ok (.aload_n 0, 1) := by decide +kernel
theorem dX10_findDoubles_75 : decode cX10_findDoubles 75 = .ok (.getfield 56, 3) := by decide +kernel
theorem dX10_findDoubles_78 : decode cX10_findDoubles 78 = .ok (.iload_n 1, 1) := by decide +kernel
theorem dX10_findDoubles_79 : decode cX10_findDoubles 79 = .ok (.iaload, 1) := by decide +kernel
theorem dX10_findDoubles_80 : decode cX10_findDoubles 80 = .ok (.istore_n 3, 1) := by decide +kernel
theorem dX10_findDoubles_81 : decode cX10_findDoubles 81 = .ok (.aload_n 0, 1) := by decide +kernel
theorem dX10_findDoubles_82 : decode cX10_findDoubles 82 = .ok (.getfield 56, 3) := by decide +kernel
theorem dX10_findDoubles_85 : decode cX10_findDoubles 85 = .ok (.iload_n 2, 1) := by decide +kernel
theorem dX10_findDoubles_86 : decode cX10_findDoubles 86 = .ok (.iaload, 1) := by decide +kernel
theorem dX10_findDoubles_87 : decode cX10_findDoubles 87 = .ok (.istore 4, 2) := by decide +kernel
theorem dX10_findDoubles_89 : decode cX10_findDoubles 89 = .ok (.aload_n 0, 1) := by decide +kernel
theorem dX10_findDoubles_90 : decode cX10_findDoubles 90 = .ok (.iload_n 1, 1) := by decide +kernel
theorem dX10_findDoubles_91 : decode cX10_findDoubles 91 = .ok (.aload_n 0, 1) := by decide +kernel
theorem dX10_findDoubles_92 : decode cX10_findDoubles 92 = .ok (.getfield 59, 3) := by decide +kernel
theorem dX10_findDoubles_95 : decode cX10_findDoubles 95 = .ok (.iload_n 1, 1) := by decide +kernel
theorem dX10_findDoubles_96 : decode cX10_findDoubles 96 = .ok (.iaload, 1) := by decide +kernel
theorem dX10_findDoubles_97 : decode cX10_findDoubles 97 = .ok (.invokevirtual 202, 3) := by decide +kernel
theorem dX10_findDoubles_100 : decode cX10_findDoubles 100 = .ok (.aload_n 0, 1) := by decide +kernel
theorem dX10_findDoubles_101 : decode cX10_findDoubles 101 = .ok (.iload_n 2, 1) := by decide +kernel
theorem dX10_findDoubles_102 : decode cX10_findDoubles 102 = .ok (.aload_n 0, 1) := by decide +kernel
theorem dX10_findDoubles_103 : decode cX10_findDoubles 103 = .ok (.getfield 59, 3) := by decide +kernel
theorem dX10_findDoubles_106 : decode cX10_findDoubles 106 = .ok (.iload_n 2, 1) := by decide +kernel
theorem dX10_findDoubles_107 : decode cX10_findDoubles 107 = .ok (.iaload, 1) := by decide +kernel
theorem dX10_findDoubles_108 : decode cX10_findDoubles 108 = .ok (.invokevirtual 202, 3) := by decide +kernel
theorem dX10_findDoubles_111 : decode cX10_findDoubles 111 = .ok (.isub, 1) := by decide +kernel
theorem dX10_findDoubles_112 : decode cX10_findDoubles 112 = .ok (.i2l, 1) := by decide +kernel
theorem dX10_findDoubles_113 : decode cX10_findDoubles 113 = .ok (.lstore 5, 2) := by decide +kernel
theorem dX10_findDoubles_115 : decode cX10_findDoubles 115 = .ok (.aload_n 0, 1) := by decide +kernel
theorem dX10_findDoubles_116 : decode cX10_findDoubles 116 = .ok (.getfield 111, 3) := by decide +kernel
theorem dX10_findDoubles_119 : decode cX10_findDoubles 119 = .ok (.iconst 5, 1) := by decide +kernel
theorem dX10_findDoubles_120 : decode cX10_findDoubles 120 = .ok (.iload_n 3, 1) := by decide +kernel
theorem dX10_findDoubles_121 : decode cX10_findDoubles 121 = .ok (.imul, 1) := by decide +kernel
theorem dX10_findDoubles_122 : decode cX10_findDoubles 122 = .ok (.iload 4, 2) := by decide +kernel
theorem dX10_findDoubles_124 : decode cX10_findDoubles 124 = .ok (.iadd, 1) := by decide +kernel
theorem dX10_findDoubles_125 : decode cX10_findDoubles 125 = .ok (.dup2, 1) := by decide +kernel
theorem dX10_findDoubles_126 : decode cX10_findDoubles 126 = .ok (.laload, 1) := by decide +kernel
theorem dX10_findDoubles_127 : decode cX10_findDoubles 127 = .ok (.lconst 1, 1) := by decide +kernel
theorem dX10_findDoubles_128 : decode cX10_findDoubles 128 = .ok (.ladd, 1) := by decide +kernel
theorem dX10_findDoubles_129 : decode cX10_findDoubles 129 = .ok (.lastore, 1) := by decide +kernel
theorem dX10_findDoubles_130 : decode cX10_findDoubles 130 = .ok (.aload_n 0, 1) := by decide +kernel
theorem dX10_findDoubles_131 : decode cX10_findDoubles 131 = .ok (.getfield 111, 3) := by decide +kernel
theorem dX10_findDoubles_134 : decode cX10_findDoubles 134 = .ok (.iconst 5, 1) := by decide +kernel
theorem dX10_findDoubles_135 : decode cX10_findDoubles 135 = .ok (.iload 4, 2) := by decide +kernel
theorem dX10_findDoubles_137 : decode cX10_findDoubles 137 = .ok (.imul, 1) := by decide +kernel
theorem dX10_findDoubles_138 : decode cX10_findDoubles 138 = .ok (.iload_n 3, 1) := by decide +kernel
theorem dX10_findDoubles_139 : decode cX10_findDoubles 139 = .ok (.iadd, 1) := by decide +kernel
theorem dX10_findDoubles_140 : decode cX10_findDoubles 140 = .ok (.dup2, 1) := by decide +kernel
theorem dX10_findDoubles_141 : decode cX10_findDoubles 141 = .ok (.laload, 1) := by decide +kernel
theorem dX10_findDoubles_142 : decode cX10_findDoubles 142 = .ok (.lconst 1, 1) := by decide +kernel
theorem dX10_findDoubles_143 : decode cX10_findDoubles 143 = .ok (.ladd, 1) := by decide +kernel
theorem dX10_findDoubles_144 : decode cX10_findDoubles 144 = .ok (.lastore, 1) := by decide +kernel
theorem dX10_findDoubles_145 : decode cX10_findDoubles 145 = .ok (.aload_n 0, 1) := by decide +kernel
theorem dX10_findDoubles_146 : decode cX10_findDoubles 146 = .ok (.getfield 115, 3) := by decide +kernel
theorem dX10_findDoubles_149 : decode cX10_findDoubles 149 = .ok (.iload_n 3, 1) := by decide +kernel
theorem dX10_findDoubles_150 : decode cX10_findDoubles 150 = .ok (.dup2, 1) := by decide +kernel
theorem dX10_findDoubles_151 : decode cX10_findDoubles 151 = .ok (.laload, 1) := by decide +kernel
theorem dX10_findDoubles_152 : decode cX10_findDoubles 152 = .ok (.lload 5, 2) := by decide +kernel
theorem dX10_findDoubles_154 : decode cX10_findDoubles 154 = .ok (.ladd, 1) := by decide +kernel
theorem dX10_findDoubles_155 : decode cX10_findDoubles 155 = .ok (.lastore, 1) := by decide +kernel
theorem dX10_findDoubles_156 : decode cX10_findDoubles 156 = .ok (.aload_n 0, 1) := by decide +kernel
theorem dX10_findDoubles_157 : decode cX10_findDoubles 157 = .ok (.getfield 115, 3) := by decide +kernel
theorem dX10_findDoubles_160 : decode cX10_findDoubles 160 = .ok (.iload 4, 2) := by decide +kernel
theorem dX10_findDoubles_162 : decode cX10_findDoubles 162 = .ok (.dup2, 1) := by decide +kernel
theorem dX10_findDoubles_163 : decode cX10_findDoubles 163 = .ok (.laload, 1) := by decide +kernel
theorem dX10_findDoubles_164 : decode cX10_findDoubles 164 = .ok (.lload 5, 2) := by decide +kernel
theorem dX10_findDoubles_166 : decode cX10_findDoubles 166 = .ok (.lsub, 1) := by decide +kernel
theorem dX10_findDoubles_167 : decode cX10_findDoubles 167 = .ok (.lastore, 1) := by decide +kernel
theorem dX10_findDoubles_168 : decode cX10_findDoubles 168 = .ok (.iinc 2 1, 3) := by decide +kernel
theorem dX10_findDoubles_171 : decode cX10_findDoubles 171 = .ok (.goto (-111), 3) := by decide +kernel
theorem dX10_findDoubles_174 : decode cX10_findDoubles 174 = .ok (.iinc 1 1, 3) := by decide +kernel
theorem dX10_findDoubles_177 : decode cX10_findDoubles 177 = .ok (.goto (-127), 3) := by decide +kernel
theorem dX10_findDoubles_180 : decode cX10_findDoubles 180 = .ok (.iconst 0, 1) := by decide +kernel
theorem dX10_findDoubles_181 : decode cX10_findDoubles 181 = .ok (.istore_n 1, 1) := by decide +kernel
theorem dX10_findDoubles_182 : decode cX10_findDoubles 182 = .ok (.iload_n 1, 1) := by decide +kernel
theorem dX10_findDoubles_183 : decode cX10_findDoubles 183 = .ok (.iconst 5, 1) := by decide +kernel
theorem dX10_findDoubles_184 : decode cX10_findDoubles 184 = .ok (.if_icmp .ge 82, 3) := by decide +kernel
theorem dX10_findDoubles_187 : decode cX10_findDoubles 187 = .ok (.iconst 0, 1) := by decide +kernel
theorem dX10_findDoubles_188 : decode cX10_findDoubles 188 = .ok (.istore_n 2, 1) := by decide +kernel
theorem dX10_findDoubles_189 : decode cX10_findDoubles 189 = .ok (.iload_n 2, 1) := by decide +kernel
theorem dX10_findDoubles_190 : decode cX10_findDoubles 190 = .ok (.bipush 25, 2) := by decide +kernel
theorem dX10_findDoubles_192 : decode cX10_findDoubles 192 = .ok (.if_icmp .ge 68, 3) := by decide +kernel
theorem dX10_findDoubles_195 : decode cX10_findDoubles 195 = .ok (.iload_n 2, 1) := by decide +kernel
theorem dX10_findDoubles_196 : decode cX10_findDoubles 196 = .ok (.iconst 5, 1) := by decide +kernel
theorem dX10_findDoubles_197 : decode cX10_findDoubles 197 = .ok (.idiv, 1) := by decide +kernel
theorem dX10_findDoubles_198 : decode cX10_findDoubles 198 = .ok (.istore_n 3, 1) := by decide +kernel
theorem dX10_findDoubles_199 : decode cX10_findDoubles 199 = .ok (.iload_n 2, 1) := by decide +kernel
theorem dX10_findDoubles_200 : decode cX10_findDoubles 200 = .ok (.iconst 5, 1) := by decide +kernel
theorem dX10_findDoubles_201 : decode cX10_findDoubles 201 = .ok (.irem, 1) := by decide +kernel
theorem dX10_findDoubles_202 : decode cX10_findDoubles 202 = .ok (.istore 4, 2) := by decide +kernel
theorem dX10_findDoubles_204 : decode cX10_findDoubles 204 = .ok (.aload_n 0, 1) := by decide +kernel
theorem dX10_findDoubles_205 : decode cX10_findDoubles 205 = .ok (.getfield 118, 3) := by decide +kernel
theorem dX10_findDoubles_208 : decode cX10_findDoubles 208 = .ok (.iload 4, 2) := by decide +kernel
theorem dX10_findDoubles_210 : decode cX10_findDoubles 210 = .ok (.aload_n 0, 1) := by decide +kernel
theorem dX10_findDoubles_211 : decode cX10_findDoubles 211 = .ok (.getfield 111, 3) := by decide +kernel
theorem dX10_findDoubles_214 : decode cX10_findDoubles 214 = .ok (.iload_n 2, 1) := by decide +kernel
theorem dX10_findDoubles_215 : decode cX10_findDoubles 215 = .ok (.laload, 1) := by decide +kernel
theorem dX10_findDoubles_216 : decode cX10_findDoubles 216 = .ok (.lconst 0, 1) := by decide +kernel
theorem dX10_findDoubles_217 : decode cX10_findDoubles 217 = .ok (.lcmp, 1) := by decide +kernel
theorem dX10_findDoubles_218 : decode cX10_findDoubles 218 = .ok (.ifCond .le 28, 3) := by decide +kernel
theorem dX10_findDoubles_221 : decode cX10_findDoubles 221 = .ok (.aload_n 0, 1) := by decide +kernel
theorem dX10_findDoubles_222 : decode cX10_findDoubles 222 = .ok (.getfield 118, 3) := by decide +kernel
theorem dX10_findDoubles_225 : decode cX10_findDoubles 225 = .ok (.iload_n 3, 1) := by decide +kernel
theorem dX10_findDoubles_226 : decode cX10_findDoubles 226 = .ok (.iaload, 1) := by decide +kernel
theorem dX10_findDoubles_227 : decode cX10_findDoubles 227 = .ok (.aload_n 0, 1) := by decide +kernel
theorem dX10_findDoubles_228 : decode cX10_findDoubles 228 = .ok (.getfield 118, 3) := by decide +kernel
theorem dX10_findDoubles_231 : decode cX10_findDoubles 231 = .ok (.iload 4, 2) := by decide +kernel
theorem dX10_findDoubles_233 : decode cX10_findDoubles 233 = .ok (.iaload, 1) := by decide +kernel
theorem dX10_findDoubles_234 : decode cX10_findDoubles 234 = .ok (.if_icmp .ge 12, 3) := by decide +kernel
theorem dX10_findDoubles_237 : decode cX10_findDoubles 237 = .ok (.aload_n 0, 1) := by decide +kernel
theorem dX10_findDoubles_238 : decode cX10_findDoubles 238 = .ok (.getfield 118, 3) := by decide +kernel
theorem dX10_findDoubles_241 : decode cX10_findDoubles 241 = .ok (.iload_n 3, 1) := by decide +kernel
theorem dX10_findDoubles_242 : decode cX10_findDoubles 242 = .ok (.iaload, 1) := by decide +kernel
theorem dX10_findDoubles_243 : decode cX10_findDoubles 243 = .ok (.goto 10, 3) := by decide +kernel
theorem dX10_findDoubles_246 : decode cX10_findDoubles 246 = .ok (.aload_n 0, 1) := by decide +kernel
theorem dX10_findDoubles_247 : decode cX10_findDoubles 247 = .ok (.getfield 118, 3) := by decide +kernel
theorem dX10_findDoubles_250 : decode cX10_findDoubles 250 = .ok (.iload 4, 2) := by decide +kernel
theorem dX10_findDoubles_252 : decode cX10_findDoubles 252 = .ok (.iaload, 1) := by decide +kernel
theorem dX10_findDoubles_253 : decode cX10_findDoubles 253 = .ok (.iastore, 1) := by decide +kernel
theorem dX10_findDoubles_254 : decode cX10_findDoubles 254 = .ok (.iinc 2 1, 3) := by decide +kernel
theorem dX10_findDoubles_257 : decode cX10_findDoubles 257 = .ok (.goto (-68), 3) := by decide +kernel
theorem dX10_findDoubles_260 : decode cX10_findDoubles 260 = .ok (.iinc 1 1, 3) := by decide +kernel
theorem dX10_findDoubles_263 : decode cX10_findDoubles 263 = .ok (.goto (-81), 3) := by decide +kernel
theorem dX10_findDoubles_266 : decode cX10_findDoubles 266 = .ok (.return_, 1) := by decide +kernel
theorem dX10_isJoined_0 : decode cX10_isJoined 0 = .ok (.iconst 0, 1) := by decide +kernel
theorem dX10_isJoined_1 : decode cX10_isJoined 1 = .ok (.istore_n 2, 1) := by decide +kernel
theorem dX10_isJoined_2 : decode cX10_isJoined 2 = .ok (.iconst 0, 1) := by decide +kernel
theorem dX10_isJoined_3 : decode cX10_isJoined 3 = .ok (.istore_n 3, 1) := by decide +kernel
theorem dX10_isJoined_4 : decode cX10_isJoined 4 = .ok (.iload_n 3, 1) := by decide +kernel
theorem dX10_isJoined_5 : decode cX10_isJoined 5 = .ok (.iconst 5, 1) := by decide +kernel
theorem dX10_isJoined_6 : decode cX10_isJoined 6 = .ok (.if_icmp .ge 34, 3) := by decide +kernel
theorem dX10_isJoined_9 : decode cX10_isJoined 9 = .ok (.iload_n 2, 1) := by decide +kernel
theorem dX10_isJoined_10 : decode cX10_isJoined 10 = .ok (.ifCond .ne 18, 3) := by decide +kernel
theorem dX10_isJoined_13 : decode cX10_isJoined 13 = .ok (.aload_n 0, 1) := by decide +kernel
theorem dX10_isJoined_14 : decode cX10_isJoined 14 = .ok (.getfield 111, 3) := by decide +kernel
theorem dX10_isJoined_17 : decode cX10_isJoined 17 = .ok (.iconst 5, 1) := by decide +kernel
theorem dX10_isJoined_18 : decode cX10_isJoined 18 = .ok (.iload_n 1, 1) := by decide +kernel
theorem dX10_isJoined_19 : decode cX10_isJoined 19 = .ok (.imul, 1) := by decide +kernel
theorem dX10_isJoined_20 : decode cX10_isJoined 20 = .ok (.iload_n 3, 1) := by decide +kernel
theorem dX10_isJoined_21 : decode cX10_isJoined 21 = .ok (.iadd, 1) := by decide +kernel
theorem dX10_isJoined_22 : decode cX10_isJoined 22 = .ok (.laload, 1) := by decide +kernel
theorem dX10_isJoined_23 : decode cX10_isJoined 23 = .ok (.lconst 0, 1) := by decide +kernel
theorem dX10_isJoined_24 : decode cX10_isJoined 24 = .ok (.lcmp, 1) := by decide +kernel
theorem dX10_isJoined_25 : decode cX10_isJoined 25 = .ok (.ifCond .le 7, 3) := by decide +kernel
theorem dX10_isJoined_28 : decode cX10_isJoined 28 = .ok (.iconst 1, 1) := by decide +kernel
theorem dX10_isJoined_29 : decode cX10_isJoined 29 = .ok (.goto 4, 3) := by decide +kernel
theorem dX10_isJoined_32 : decode cX10_isJoined 32 = .ok (.iconst 0, 1) := by decide +kernel
theorem dX10_isJoined_33 : decode cX10_isJoined 33 = .ok (.istore_n 2, 1) := by decide +kernel
theorem dX10_isJoined_34 : decode cX10_isJoined 34 = .ok (.iinc 3 1, 3) := by decide +kernel
theorem dX10_isJoined_37 : decode cX10_isJoined 37 = .ok (.goto (-33), 3) := by decide +kernel
theorem dX10_isJoined_40 : decode cX10_isJoined 40 = .ok (.iload_n 2, 1) := by decide +kernel
theorem dX10_isJoined_41 : decode cX10_isJoined 41 = .ok (.ireturn, 1) := by decide +kernel
theorem dX10_entry_0 : decode cX10_entry 0 = .ok (.iload_n 2, 1) := by decide +kernel
theorem dX10_entry_1 : decode cX10_entry 1 = .ok (.iload_n 3, 1) := by decide +kernel
theorem dX10_entry_2 : decode cX10_entry 2 = .ok (.if_icmp .ne 15, 3) := by decide +kernel
theorem dX10_entry_5 : decode cX10_entry 5 = .ok (.aload_n 0, 1) := by decide +kernel
theorem dX10_entry_6 : decode cX10_entry 6 = .ok (.getfield 115, 3) := by decide +kernel
theorem dX10_entry_9 : decode cX10_entry 9 = .ok (.aload_n 0, 1) := by decide +kernel
theorem dX10_entry_10 : decode cX10_entry 10 = .ok (.getfield 121, 3) := by decide +kernel
theorem dX10_entry_13 : decode cX10_entry 13 = .ok (.iload_n 1, 1) := by decide +kernel
theorem dX10_entry_14 : decode cX10_entry 14 = .ok (.iaload, 1) := by decide +kernel
theorem dX10_entry_15 : decode cX10_entry 15 = .ok (.laload, 1) := by decide +kernel
theorem dX10_entry_16 : decode cX10_entry 16 = .ok (.lreturn, 1) := by decide +kernel
theorem dX10_entry_17 : decode cX10_entry 17 = .ok (.iload_n 1, 1) := by decide +kernel
theorem dX10_entry_18 : decode cX10_entry 18 = .ok (.iload_n 2, 1) := by decide +kernel
theorem dX10_entry_19 : decode cX10_entry 19 = .ok (.if_icmp .eq 25, 3) := by decide +kernel
theorem dX10_entry_22 : decode cX10_entry 22 = .ok (.aload_n 0, 1) := by decide +kernel
theorem dX10_entry_23 : decode cX10_entry 23 = .ok (.getfield 111, 3) := by decide +kernel
theorem dX10_entry_26 : decode cX10_entry 26 = .ok (.iconst 5, 1) := by decide +kernel
theorem dX10_entry_27 : decode cX10_entry 27 = .ok (.aload_n 0, 1) := by decide +kernel
theorem dX10_entry_28 : decode cX10_entry 28 = .ok (.getfield 121, 3) := by decide +kernel
theorem dX10_entry_31 : decode cX10_entry 31 = .ok (.iload_n 1, 1) := by decide +kernel
theorem dX10_entry_32 : decode cX10_entry 32 = .ok (.iaload, 1) := by decide +kernel
theorem dX10_entry_33 : decode cX10_entry 33 = .ok (.imul, 1) := by decide +kernel
theorem dX10_entry_34 : decode cX10_entry 34 = .ok (.aload_n 0, 1) := by decide +kernel
theorem dX10_entry_35 : decode cX10_entry 35 = .ok (.getfield 121, 3) := by decide +kernel
theorem dX10_entry_38 : decode cX10_entry 38 = .ok (.iload_n 2, 1) := by decide +kernel
theorem dX10_entry_39 : decode cX10_entry 39 = .ok (.iaload, 1) := by decide +kernel
theorem dX10_entry_40 : decode cX10_entry 40 = .ok (.iadd, 1) := by decide +kernel
theorem dX10_entry_41 : decode cX10_entry 41 = .ok (.laload, 1) := by decide +kernel
theorem dX10_entry_42 : decode cX10_entry 42 = .ok (.lneg, 1) := by decide +kernel
theorem dX10_entry_43 : decode cX10_entry 43 = .ok (.lreturn, 1) := by decide +kernel
theorem dX10_entry_44 : decode cX10_entry 44 = .ok (.lconst 0, 1) := by decide +kernel
theorem dX10_entry_45 : decode cX10_entry 45 = .ok (.lstore 4, 2) := by decide +kernel
theorem dX10_entry_47 : decode cX10_entry 47 = .ok (.iconst 0, 1) := by decide +kernel
theorem dX10_entry_48 : decode cX10_entry 48 = .ok (.istore 6, 2) := by decide +kernel
theorem dX10_entry_50 : decode cX10_entry 50 = .ok (.iload 6, 2) := by decide +kernel
theorem dX10_entry_52 : decode cX10_entry 52 = .ok (.iconst 5, 1) := by decide +kernel
theorem dX10_entry_53 : decode cX10_entry 53 = .ok (.if_icmp .ge 30, 3) := by decide +kernel
theorem dX10_entry_56 : decode cX10_entry 56 = .ok (.lload 4, 2) := by decide +kernel
theorem dX10_entry_58 : decode cX10_entry 58 = .ok (.aload_n 0, 1) := by decide +kernel
theorem dX10_entry_59 : decode cX10_entry 59 = .ok (.getfield 111, 3) := by decide +kernel
theorem dX10_entry_62 : decode cX10_entry 62 = .ok (.iconst 5, 1) := by decide +kernel
theorem dX10_entry_63 : decode cX10_entry 63 = .ok (.aload_n 0, 1) := by decide +kernel
theorem dX10_entry_64 : decode cX10_entry 64 = .ok (.getfield 121, 3) := by decide +kernel
theorem dX10_entry_67 : decode cX10_entry 67 = .ok (.iload_n 1, 1) := by decide +kernel
theorem dX10_entry_68 : decode cX10_entry 68 = .ok (.iaload, 1) := by decide +kernel
theorem dX10_entry_69 : decode cX10_entry 69 = .ok (.imul, 1) := by decide +kernel
theorem dX10_entry_70 : decode cX10_entry 70 = .ok (.iload 6, 2) := by decide +kernel
theorem dX10_entry_72 : decode cX10_entry 72 = .ok (.iadd, 1) := by decide +kernel
theorem dX10_entry_73 : decode cX10_entry 73 = .ok (.laload, 1) := by decide +kernel
theorem dX10_entry_74 : decode cX10_entry 74 = .ok (.ladd, 1) := by decide +kernel
theorem dX10_entry_75 : decode cX10_entry 75 = .ok (.lstore 4, 2) := by decide +kernel
theorem dX10_entry_77 : decode cX10_entry 77 = .ok (.iinc 6 1, 3) := by decide +kernel
theorem dX10_entry_80 : decode cX10_entry 80 = .ok (.goto (-30), 3) := by decide +kernel
theorem dX10_entry_83 : decode cX10_entry 83 = .ok (.lload 4, 2) := by decide +kernel
theorem dX10_entry_85 : decode cX10_entry 85 = .ok (.lreturn, 1) := by decide +kernel
theorem dX10_determinant_0 : decode cX10_determinant 0 = .ok (.lconst 0, 1) := by decide +kernel
theorem dX10_determinant_1 : decode cX10_determinant 1 = .ok (.lstore_n 2, 1) := by decide +kernel
theorem dX10_determinant_2 : decode cX10_determinant 2 = .ok (.iconst 1, 1) := by decide +kernel
theorem dX10_determinant_3 : decode cX10_determinant 3 = .ok (.istore 4, 2) := by decide +kernel
theorem dX10_determinant_5 : decode cX10_determinant 5 = .ok (.iconst 2, 1) := by decide +kernel
theorem dX10_determinant_6 : decode cX10_determinant 6 = .ok (.istore 5, 2) := by decide +kernel
theorem dX10_determinant_8 : decode cX10_determinant 8 = .ok (.iload 5, 2) := by decide +kernel
theorem dX10_determinant_10 : decode cX10_determinant 10 = .ok (.aload_n 0, 1) := by decide +kernel
theorem dX10_determinant_11 : decode cX10_determinant 11 = .ok (.getfield 257, 3) := by decide +kernel
theorem dX10_determinant_14 : decode cX10_determinant 14 = .ok (.if_icmp .gt 16, 3) := by decide +kernel
theorem dX10_determinant_17 : decode cX10_determinant 17 = .ok (.iload 4, 2) := by decide +kernel
theorem dX10_determinant_19 : decode cX10_determinant 19 = .ok (.iload 5, 2) := by decide +kernel
theorem dX10_determinant_21 : decode cX10_determinant 21 = .ok (.imul, 1) := by decide +kernel
theorem dX10_determinant_22 : decode cX10_determinant 22 = .ok (.istore 4, 2) := by decide +kernel
theorem dX10_determinant_24 : decode cX10_determinant 24 = .ok (.iinc 5 1, 3) := by decide +kernel
theorem dX10_determinant_27 : decode cX10_determinant 27 = .ok (.goto (-19), 3) := by decide +kernel
theorem dX10_determinant_30 : decode cX10_determinant 30 = .ok (.iconst 0, 1) := by decide +kernel
theorem dX10_determinant_31 : decode cX10_determinant 31 = .ok (.istore 5, 2) := by decide +kernel
theorem dX10_determinant_33 : decode cX10_determinant 33 = .ok (.iload 5, 2) := by decide +kernel
theorem dX10_determinant_35 : decode cX10_determinant 35 = .ok (.iload 4, 2) := by decide +kernel
theorem dX10_determinant_37 : decode cX10_determinant 37 = .ok (.if_icmp .ge 157, 3) := by decide +kernel
theorem dX10_determinant_40 : decode cX10_determinant 40 = .ok (.iload 5, 2) := by decide +kernel
theorem dX10_determinant_42 : decode cX10_determinant 42 = .ok (.istore 6, 2) := by decide +kernel
theorem dX10_determinant_44 : decode cX10_determinant 44 = .ok (.iconst 0, 1) := by decide +kernel
theorem dX10_determinant_45 : decode cX10_determinant 45 = .ok (.istore 7, 2) := by decide +kernel
theorem dX10_determinant_47 : decode cX10_determinant 47 = .ok (.iload 7, 2) := by decide +kernel
theorem dX10_determinant_49 : decode cX10_determinant 49 = .ok (.aload_n 0, 1) := by decide +kernel
theorem dX10_determinant_50 : decode cX10_determinant 50 = .ok (.getfield 257, 3) := by decide +kernel
theorem dX10_determinant_53 : decode cX10_determinant 53 = .ok (.if_icmp .ge 18, 3) := by decide +kernel
theorem dX10_determinant_56 : decode cX10_determinant 56 = .ok (.aload_n 0, 1) := by decide +kernel
theorem dX10_determinant_57 : decode cX10_determinant 57 = .ok (.getfield 124, 3) := by decide +kernel
theorem dX10_determinant_60 : decode cX10_determinant 60 = .ok (.iload 7, 2) := by decide +kernel
theorem dX10_determinant_62 : decode cX10_determinant 62 = .ok (.iload 7, 2) := by decide +kernel
theorem dX10_determinant_64 : decode cX10_determinant 64 = .ok (.iastore, 1) := by decide +kernel
theorem dX10_determinant_65 : decode cX10_determinant 65 = .ok (.iinc 7 1, 3) := by decide +kernel
theorem dX10_determinant_68 : decode cX10_determinant 68 = .ok (.goto (-21), 3) := by decide +kernel
theorem dX10_determinant_71 : decode cX10_determinant 71 = .ok (.lconst 1, 1) := by decide +kernel
theorem dX10_determinant_72 : decode cX10_determinant 72 = .ok (.lstore 7, 2) := by decide +kernel
theorem dX10_determinant_74 : decode cX10_determinant 74 = .ok (.iconst 0, 1) := by decide +kernel
theorem dX10_determinant_75 : decode cX10_determinant 75 = .ok (.istore 9, 2) := by decide +kernel
theorem dX10_determinant_77 : decode cX10_determinant 77 = .ok (.iload 9, 2) := by decide +kernel
theorem dX10_determinant_79 : decode cX10_determinant 79 = .ok (.aload_n 0, 1) := by decide +kernel
theorem dX10_determinant_80 : decode cX10_determinant 80 = .ok (.getfield 257, 3) := by decide +kernel
theorem dX10_determinant_83 : decode cX10_determinant 83 = .ok (.if_icmp .ge 100, 3) := by decide +kernel
theorem dX10_determinant_86 : decode cX10_determinant 86 = .ok (.iload 9, 2) := by decide +kernel
theorem dX10_determinant_88 : decode cX10_determinant 88 = .ok (.iload 6, 2) := by decide +kernel
theorem dX10_determinant_90 : decode cX10_determinant 90 = .ok (.aload_n 0, 1) := by decide +kernel
theorem dX10_determinant_91 : decode cX10_determinant 91 = .ok (.getfield 257, 3) := by decide +kernel
theorem dX10_determinant_94 : decode cX10_determinant 94 = .ok (.iload 9, 2) := by decide +kernel
theorem dX10_determinant_96 : decode cX10_determinant 96 = .ok (.isub, 1) := by decide +kernel
theorem dX10_determinant_97 : decode cX10_determinant 97 = .ok (.irem, 1) := by decide +kernel
theorem dX10_determinant_98 : decode cX10_determinant 98 = .ok (.iadd, 1) := by decide +kernel
theorem dX10_determinant_99 : decode cX10_determinant 99 = .ok (.istore 10, 2) := by decide +kernel
theorem dX10_determinant_101 : decode cX10_determinant 101 = .ok (.iload 6, 2) := by decide +kernel
theorem dX10_determinant_103 : decode cX10_determinant 103 = .ok (.aload_n 0, 1) := by decide +kernel
theorem dX10_determinant_104 : decode cX10_determinant 104 = .ok (.getfield 257, 3) := by decide +kernel
theorem dX10_determinant_107 : decode cX10_determinant 107 = .ok (.iload 9, 2) := by decide +kernel
theorem dX10_determinant_109 : decode cX10_determinant 109 = .ok (.isub, 1) := by decide +kernel
theorem dX10_determinant_110 : decode cX10_determinant 110 = .ok (.idiv, 1) := by decide +kernel
theorem dX10_determinant_111 : decode cX10_determinant 111 = .ok (.istore 6, 2) := by decide +kernel
theorem dX10_determinant_113 : decode cX10_determinant 113 = .ok (.aload_n 0, 1) := by decide +kernel
theorem dX10_determinant_114 : decode cX10_determinant 114 = .ok (.getfield 124, 3) := by decide +kernel
theorem dX10_determinant_117 : decode cX10_determinant 117 = .ok (.iload 9, 2) := by decide +kernel
theorem dX10_determinant_119 : decode cX10_determinant 119 = .ok (.iaload, 1) := by decide +kernel
theorem dX10_determinant_120 : decode cX10_determinant 120 = .ok (.istore 11, 2) := by decide +kernel
theorem dX10_determinant_122 : decode cX10_determinant 122 = .ok (.aload_n 0, 1) := by decide +kernel
theorem dX10_determinant_123 : decode cX10_determinant 123 = .ok (.getfield 124, 3) := by decide +kernel
theorem dX10_determinant_126 : decode cX10_determinant 126 = .ok (.iload 9, 2) := by decide +kernel
theorem dX10_determinant_128 : decode cX10_determinant 128 = .ok (.aload_n 0, 1) := by decide +kernel
theorem dX10_determinant_129 : decode cX10_determinant 129 = .ok (.getfield 124, 3) := by decide +kernel
theorem dX10_determinant_132 : decode cX10_determinant 132 = .ok (.iload 10, 2) := by decide +kernel
theorem dX10_determinant_134 : decode cX10_determinant 134 = .ok (.iaload, 1) := by decide +kernel
theorem dX10_determinant_135 : decode cX10_determinant 135 = .ok (.iastore, 1) := by decide +kernel
theorem dX10_determinant_136 : decode cX10_determinant 136 = .ok (.aload_n 0, 1) := by decide +kernel
theorem dX10_determinant_137 : decode cX10_determinant 137 = .ok (.getfield 124, 3) := by decide +kernel
theorem dX10_determinant_140 : decode cX10_determinant 140 = .ok (.iload 10, 2) := by decide +kernel
theorem dX10_determinant_142 : decode cX10_determinant 142 = .ok (.iload 11, 2) := by decide +kernel
theorem dX10_determinant_144 : decode cX10_determinant 144 = .ok (.iastore, 1) := by decide +kernel
theorem dX10_determinant_145 : decode cX10_determinant 145 = .ok (.iload 10, 2) := by decide +kernel
theorem dX10_determinant_147 : decode cX10_determinant 147 = .ok (.iload 9, 2) := by decide +kernel
theorem dX10_determinant_149 : decode cX10_determinant 149 = .ok (.if_icmp .ne 8, 3) := by decide +kernel
theorem dX10_determinant_152 : decode cX10_determinant 152 = .ok (.lload 7, 2) := by decide +kernel
theorem dX10_determinant_154 : decode cX10_determinant 154 = .ok (.goto 6, 3) := by decide +kernel
theorem dX10_determinant_157 : decode cX10_determinant 157 = .ok (.lload 7, 2) := by decide +kernel
theorem dX10_determinant_159 : decode cX10_determinant 159 = .ok (.lneg, 1) := by decide +kernel
theorem dX10_determinant_160 : decode cX10_determinant 160 = .ok (.aload_n 0, 1) := by decide +kernel
theorem dX10_determinant_161 : decode cX10_determinant 161 = .ok (.iload 9, 2) := by decide +kernel
theorem dX10_determinant_163 : decode cX10_determinant 163 = .ok (.aload_n 0, 1) := by decide +kernel
theorem dX10_determinant_164 : decode cX10_determinant 164 = .ok (.getfield 124, 3) := by decide +kernel
theorem dX10_determinant_167 : decode cX10_determinant 167 = .ok (.iload 9, 2) := by decide +kernel
theorem dX10_determinant_169 : decode cX10_determinant 169 = .ok (.iaload, 1) := by decide +kernel
theorem dX10_determinant_170 : decode cX10_determinant 170 = .ok (.iload_n 1, 1) := by decide +kernel
theorem dX10_determinant_171 : decode cX10_determinant 171 = .ok (.invokevirtual 260, 3) := by decide +kernel
theorem dX10_determinant_174 : decode cX10_determinant 174 = .ok (.lmul, 1) := by decide +kernel
theorem dX10_determinant_175 : decode cX10_determinant 175 = .ok (.lstore 7, 2) := by decide +kernel
theorem dX10_determinant_177 : decode cX10_determinant 177 = .ok (.iinc 9 1, 3) := by decide +kernel
theorem dX10_determinant_180 : decode cX10_determinant 180 = .ok (.goto (-103), 3) := by decide +kernel
theorem dX10_determinant_183 : decode cX10_determinant 183 = .ok (.lload_n 2, 1) := by decide +kernel
theorem dX10_determinant_184 : decode cX10_determinant 184 = .ok (.lload 7, 2) := by decide +kernel
theorem dX10_determinant_186 : decode cX10_determinant 186 = .ok (.ladd, 1) := by decide +kernel
theorem dX10_determinant_187 : decode cX10_determinant 187 = .ok (.lstore_n 2, 1) := by decide +kernel
theorem dX10_determinant_188 : decode cX10_determinant 188 = .ok (.iinc 5 1, 3) := by decide +kernel
theorem dX10_determinant_191 : decode cX10_determinant 191 = .ok (.goto (-158), 3) := by decide +kernel
theorem dX10_determinant_194 : decode cX10_determinant 194 = .ok (.lload_n 2, 1) := by decide +kernel
theorem dX10_determinant_195 : decode cX10_determinant 195 = .ok (.lreturn, 1) := by decide +kernel
theorem dX10_findHabit_0 : decode cX10_findHabit 0 = .ok (.aload_n 0, 1) := by decide +kernel
theorem dX10_findHabit_1 : decode cX10_findHabit 1 = .ok (.invokevirtual 264, 3) := by decide +kernel
theorem dX10_findHabit_4 : decode cX10_findHabit 4 = .ok (.aload_n 0, 1) := by decide +kernel
theorem dX10_findHabit_5 : decode cX10_findHabit 5 = .ok (.lconst 0, 1) := by decide +kernel
theorem dX10_findHabit_6 : decode cX10_findHabit 6 = .ok (.putfield 267, 3) := by decide +kernel
theorem dX10_findHabit_9 : decode cX10_findHabit 9 = .ok (.aload_n 0, 1) := by decide +kernel
theorem dX10_findHabit_10 : decode cX10_findHabit 10 = .ok (.lconst 1, 1) := by decide +kernel
theorem dX10_findHabit_11 : decode cX10_findHabit 11 = .ok (.putfield 271, 3) := by decide +kernel
theorem dX10_findHabit_14 : decode cX10_findHabit 14 = .ok (.aload_n 0, 1) := by decide +kernel
theorem dX10_findHabit_15 : decode cX10_findHabit 15 = .ok (.iload_n 1, 1) := by decide +kernel
theorem dX10_findHabit_16 : decode cX10_findHabit 16 = .ok (.invokevirtual 274, 3) := by decide +kernel
theorem dX10_findHabit_19 : decode cX10_findHabit 19 = .ok (.ifCond .eq 13, 3) := by decide +kernel
theorem dX10_findHabit_22 : decode cX10_findHabit 22 = .ok (.aload_n 0, 1) := by decide +kernel
theorem dX10_findHabit_23 : decode cX10_findHabit 23 = .ok (.getfield 118, 3) := by decide +kernel
theorem dX10_findHabit_26 : decode cX10_findHabit 26 = .ok (.iload_n 1, 1) := by decide +kernel
theorem dX10_findHabit_27 : decode cX10_findHabit 27 = .ok (.iaload, 1) := by decide +kernel
theorem dX10_findHabit_28 : decode cX10_findHabit 28 = .ok (.iload_n 1, 1) := by decide +kernel
theorem dX10_findHabit_29 : decode cX10_findHabit 29 = .ok (.if_icmp .ne 4, 3) := by decide +kernel
theorem dX10_findHabit_32 : decode cX10_findHabit 32 = .ok (.return_, 1) := by decide +kernel
theorem dX10_findHabit_33 : decode cX10_findHabit 33 = .ok (.aload_n 0, 1) := by decide +kernel
theorem dX10_findHabit_34 : decode cX10_findHabit 34 = .ok (.iconst 0, 1) := by decide +kernel
theorem dX10_findHabit_35 : decode cX10_findHabit 35 = .ok (.putfield 257, 3) := by decide +kernel
theorem dX10_findHabit_38 : decode cX10_findHabit 38 = .ok (.iconst 0, 1) := by decide +kernel
theorem dX10_findHabit_39 : decode cX10_findHabit 39 = .ok (.istore_n 2, 1) := by decide +kernel
theorem dX10_findHabit_40 : decode cX10_findHabit 40 = .ok (.iconst 0, 1) := by decide +kernel
theorem dX10_findHabit_41 : decode cX10_findHabit 41 = .ok (.istore_n 3, 1) := by decide +kernel
theorem dX10_findHabit_42 : decode cX10_findHabit 42 = .ok (.iload_n 3, 1) := by decide +kernel
theorem dX10_findHabit_43 : decode cX10_findHabit 43 = .ok (.iconst 5, 1) := by decide +kernel
theorem dX10_findHabit_44 : decode cX10_findHabit 44 = .ok (.if_icmp .ge 68, 3) := by decide +kernel
theorem dX10_findHabit_47 : decode cX10_findHabit 47 = .ok (.aload_n 0, 1) := by decide +kernel
theorem dX10_findHabit_48 : decode cX10_findHabit 48 = .ok (.getfield 118, 3) := by decide +kernel
theorem dX10_findHabit_51 : decode cX10_findHabit 51 = .ok (.iload_n 3, 1) := by decide +kernel
theorem dX10_findHabit_52 : decode cX10_findHabit 52 = .ok (.iaload, 1) := by decide +kernel
theorem dX10_findHabit_53 : decode cX10_findHabit 53 = .ok (.aload_n 0, 1) := by decide +kernel
theorem dX10_findHabit_54 : decode cX10_findHabit 54 = .ok (.getfield 118, 3) := by decide +kernel
theorem dX10_findHabit_57 : decode cX10_findHabit 57 = .ok (.iload_n 1, 1) := by decide +kernel
theorem dX10_findHabit_58 : decode cX10_findHabit 58 = .ok (.iaload, 1) := by decide +kernel
theorem dX10_findHabit_59 : decode cX10_findHabit 59 = .ok (.if_icmp .ne 47, 3) := by decide +kernel
theorem dX10_findHabit_62 : decode cX10_findHabit 62 = .ok (.aload_n 0, 1) := by decide +kernel
theorem dX10_findHabit_63 : decode cX10_findHabit 63 = .ok (.getfield 118, 3) := by decide +kernel
theorem dX10_findHabit_66 : decode cX10_findHabit 66 = .ok (.iload_n 3, 1) := by decide +kernel
theorem dX10_findHabit_67 : decode cX10_findHabit 67 = .ok (.iaload, 1) := by decide +kernel
theorem dX10_findHabit_68 : decode cX10_findHabit 68 = .ok (.iload_n 3, 1) := by decide +kernel
theorem dX10_findHabit_69 : decode cX10_findHabit 69 = .ok (.if_icmp .eq 37, 3) := by decide +kernel
theorem dX10_findHabit_72 : decode cX10_findHabit 72 = .ok (.iload_n 3, 1) := by decide +kernel
theorem dX10_findHabit_73 : decode cX10_findHabit 73 = .ok (.iload_n 1, 1) := by decide +kernel
theorem dX10_findHabit_74 : decode cX10_findHabit 74 = .ok (.if_icmp .ne 10, 3) := by decide +kernel
theorem dX10_findHabit_77 : decode cX10_findHabit 77 = .ok (.aload_n 0, 1) := by decide +kernel
theorem dX10_findHabit_78 : decode cX10_findHabit 78 = .ok (.getfield 257, 3) := by decide +kernel
theorem dX10_findHabit_81 : decode cX10_findHabit 81 = .ok (.goto 4, 3) := by decide +kernel
theorem dX10_findHabit_84 : decode cX10_findHabit 84 = .ok (.iload_n 2, 1) := by decide +kernel
theorem dX10_findHabit_85 : decode cX10_findHabit 85 = .ok (.istore_n 2, 1) := by decide +kernel
theorem dX10_findHabit_86 : decode cX10_findHabit 86 = .ok (.aload_n 0, 1) := by decide +kernel
theorem dX10_findHabit_87 : decode cX10_findHabit 87 = .ok (.getfield 121, 3) := by decide +kernel
theorem dX10_findHabit_90 : decode cX10_findHabit 90 = .ok (.aload_n 0, 1) := by decide +kernel
theorem dX10_findHabit_91 : decode cX10_findHabit 91 = .ok (.getfield 257, 3) := by decide +kernel
theorem dX10_findHabit_94 : decode cX10_findHabit 94 = .ok (.iload_n 3, 1) := by decide +kernel
theorem dX10_findHabit_95 : decode cX10_findHabit 95 = .ok (.iastore, 1) := by decide +kernel
theorem dX10_findHabit_96 : decode cX10_findHabit 96 = .ok (.aload_n 0, 1) := by decide +kernel
theorem dX10_findHabit_97 : decode cX10_findHabit 97 = .ok (.dup, 1) := by decide +kernel
theorem dX10_findHabit_98 : decode cX10_findHabit 98 = .ok (.getfield 257, 3) := by decide +kernel
theorem dX10_findHabit_101 : decode cX10_findHabit 101 = .ok (.iconst 1, 1) := by decide +kernel
theorem dX10_findHabit_102 : decode cX10_findHabit 102 = .ok (.iadd, 1) := by decide +kernel
theorem dX10_findHabit_103 : decode cX10_findHabit 103 = .ok (.putfield 257, 3) := by decide +kernel
theorem dX10_findHabit_106 : decode cX10_findHabit 106 = .ok (.iinc 3 1, 3) := by decide +kernel
theorem dX10_findHabit_109 : decode cX10_findHabit 109 = .ok (.goto (-67), 3) := by decide +kernel
theorem dX10_findHabit_112 : decode cX10_findHabit 112 = .ok (.aload_n 0, 1) := by decide +kernel
theorem dX10_findHabit_113 : decode cX10_findHabit 113 = .ok (.aload_n 0, 1) := by decide +kernel
theorem dX10_findHabit_114 : decode cX10_findHabit 114 = .ok (.iload_n 2, 1) := by decide +kernel
theorem dX10_findHabit_115 : decode cX10_findHabit 115 = .ok (.invokevirtual 277, 3) := by decide +kernel
theorem dX10_findHabit_118 : decode cX10_findHabit 118 = .ok (.putfield 267, 3) := by decide +kernel
theorem dX10_findHabit_121 : decode cX10_findHabit 121 = .ok (.aload_n 0, 1) := by decide +kernel
theorem dX10_findHabit_122 : decode cX10_findHabit 122 = .ok (.aload_n 0, 1) := by decide +kernel
theorem dX10_findHabit_123 : decode cX10_findHabit 123 = .ok (.iconst (-1), 1) := by decide +kernel
theorem dX10_findHabit_124 : decode cX10_findHabit 124 = .ok (.invokevirtual 277, 3) := by decide +kernel
theorem dX10_findHabit_127 : decode cX10_findHabit 127 = .ok (.putfield 271, 3) := by decide +kernel
theorem dX10_findHabit_130 : decode cX10_findHabit 130 = .ok (.aload_n 0, 1) := by decide +kernel
theorem dX10_findHabit_131 : decode cX10_findHabit 131 = .ok (.getfield 267, 3) := by decide +kernel
theorem dX10_findHabit_134 : decode cX10_findHabit 134 = .ok (.aload_n 0, 1) := by decide +kernel
theorem dX10_findHabit_135 : decode cX10_findHabit 135 = .ok (.getfield 271, 3) := by decide +kernel
theorem dX10_findHabit_138 : decode cX10_findHabit 138 = .ok (.invokestatic 281, 3) := by decide +kernel
theorem dX10_findHabit_141 : decode cX10_findHabit 141 = .ok (.lstore_n 3, 1) := by decide +kernel
theorem dX10_findHabit_142 : decode cX10_findHabit 142 = .ok (.aload_n 0, 1) := by decide +kernel
theorem dX10_findHabit_143 : decode cX10_findHabit 143 = .ok (.dup, 1) := by decide +kernel
theorem dX10_findHabit_144 : decode cX10_findHabit 144 = .ok (.getfield 267, 3) := by decide +kernel
theorem dX10_findHabit_147 : decode cX10_findHabit 147 = .ok (.lload_n 3, 1) := by decide +kernel
theorem dX10_findHabit_148 : decode cX10_findHabit 148 = .ok (.ldiv, 1) := by decide +kernel
theorem dX10_findHabit_149 : decode cX10_findHabit 149 = .ok (.putfield 267, 3) := by decide +kernel
theorem dX10_findHabit_152 : decode cX10_findHabit 152 = .ok (.aload_n 0, 1) := by decide +kernel
theorem dX10_findHabit_153 : decode cX10_findHabit 153 = .ok (.dup, 1) := by decide +kernel
theorem dX10_findHabit_154 : decode cX10_findHabit 154 = .ok (.getfield 271, 3) := by decide +kernel
theorem dX10_findHabit_157 : decode cX10_findHabit 157 = .ok (.lload_n 3, 1) := by decide +kernel
theorem dX10_findHabit_158 : decode cX10_findHabit 158 = .ok (.ldiv, 1) := by decide +kernel
theorem dX10_findHabit_159 : decode cX10_findHabit 159 = .ok (.putfield 271, 3) := by decide +kernel
theorem dX10_findHabit_162 : decode cX10_findHabit 162 = .ok (.return_, 1) := by decide +kernel
theorem dX10_habit_0 : decode cX10_habit 0 = .ok (.iload_n 1, 1) := by decide +kernel
theorem dX10_habit_1 : decode cX10_habit 1 = .ok (.iconst 0, 1) := by decide +kernel
theorem dX10_habit_2 : decode cX10_habit 2 = .ok (.iconst 4, 1) := by decide +kernel
theorem dX10_habit_3 : decode cX10_habit 3 = .ok (.invokestatic 168, 3) := by decide +kernel
theorem dX10_habit_6 : decode cX10_habit 6 = .ok (.ifCond .ne 9, 3) := by decide +kernel
theorem dX10_habit_9 : decode cX10_habit 9 = .ok (.aload_n 0, 1) := by decide +kernel
theorem dX10_habit_10 : decode cX10_habit 10 = .ok (.iconst (-1), 1) := by decide +kernel
theorem dX10_habit_11 : decode cX10_habit 11 = .ok (.invokevirtual 285, 3) := by decide +kernel
theorem dX10_habit_14 : decode cX10_habit 14 = .ok (.lreturn, 1) := by decide +kernel
theorem dX10_habit_15 : decode cX10_habit 15 = .ok (.iload_n 2, 1) := by decide +kernel
theorem dX10_habit_16 : decode cX10_habit 16 = .ok (.iconst 0, 1) := by decide +kernel
theorem dX10_habit_17 : decode cX10_habit 17 = .ok (.iconst 1, 1) := by decide +kernel
theorem dX10_habit_18 : decode cX10_habit 18 = .ok (.invokestatic 168, 3) := by decide +kernel
theorem dX10_habit_21 : decode cX10_habit 21 = .ok (.ifCond .ne 10, 3) := by decide +kernel
theorem dX10_habit_24 : decode cX10_habit 24 = .ok (.aload_n 0, 1) := by decide +kernel
theorem dX10_habit_25 : decode cX10_habit 25 = .ok (.bipush (-2), 2) := by decide +kernel
theorem dX10_habit_27 : decode cX10_habit 27 = .ok (.invokevirtual 285, 3) := by decide +kernel
theorem dX10_habit_30 : decode cX10_habit 30 = .ok (.lreturn, 1) := by decide +kernel
theorem dX10_habit_31 : decode cX10_habit 31 = .ok (.aload_n 0, 1) := by decide +kernel
theorem dX10_habit_32 : decode cX10_habit 32 = .ok (.iload_n 1, 1) := by decide +kernel
theorem dX10_habit_33 : decode cX10_habit 33 = .ok (.invokevirtual 288, 3) := by decide +kernel
theorem dX10_habit_36 : decode cX10_habit 36 = .ok (.aload_n 0, 1) := by decide +kernel
theorem dX10_habit_37 : decode cX10_habit 37 = .ok (.iload_n 1, 1) := by decide +kernel
theorem dX10_habit_38 : decode cX10_habit 38 = .ok (.invokevirtual 274, 3) := by decide +kernel
theorem dX10_habit_41 : decode cX10_habit 41 = .ok (.ifCond .ne 10, 3) := by decide +kernel
theorem dX10_habit_44 : decode cX10_habit 44 = .ok (.aload_n 0, 1) := by decide +kernel
theorem dX10_habit_45 : decode cX10_habit 45 = .ok (.bipush (-3), 2) := by decide +kernel
theorem dX10_habit_47 : decode cX10_habit 47 = .ok (.invokevirtual 285, 3) := by decide +kernel
theorem dX10_habit_50 : decode cX10_habit 50 = .ok (.lreturn, 1) := by decide +kernel
theorem dX10_habit_51 : decode cX10_habit 51 = .ok (.iload_n 2, 1) := by decide +kernel
theorem dX10_habit_52 : decode cX10_habit 52 = .ok (.ifCond .ne 10, 3) := by decide +kernel
theorem dX10_habit_55 : decode cX10_habit 55 = .ok (.aload_n 0, 1) := by decide +kernel
theorem dX10_habit_56 : decode cX10_habit 56 = .ok (.getfield 267, 3) := by decide +kernel
theorem dX10_habit_59 : decode cX10_habit 59 = .ok (.goto 7, 3) := by decide +kernel
theorem dX10_habit_62 : decode cX10_habit 62 = .ok (.aload_n 0, 1) := by decide +kernel
theorem dX10_habit_63 : decode cX10_habit 63 = .ok (.getfield 271, 3) := by decide +kernel
theorem dX10_habit_66 : decode cX10_habit 66 = .ok (.lreturn, 1) := by decide +kernel
theorem dX10_findEvened_0 : decode cX10_findEvened 0 = .ok (.aload_n 0, 1) := by decide +kernel
theorem dX10_findEvened_1 : decode cX10_findEvened 1 = .ok (.aload_n 0, 1) := by decide +kernel
theorem dX10_findEvened_2 : decode cX10_findEvened 2 = .ok (.getfield 56, 3) := by decide +kernel
theorem dX10_findEvened_5 : decode cX10_findEvened 5 = .ok (.iload_n 1, 1) := by decide +kernel
theorem dX10_findEvened_6 : decode cX10_findEvened 6 = .ok (.iaload, 1) := by decide +kernel
theorem dX10_findEvened_7 : decode cX10_findEvened 7 = .ok (.invokevirtual 288, 3) := by decide +kernel
theorem dX10_findEvened_10 : decode cX10_findEvened 10 = .ok (.aload_n 0, 1) := by decide +kernel
theorem dX10_findEvened_11 : decode cX10_findEvened 11 = .ok (.aload_n 0, 1) := by decide +kernel
theorem dX10_findEvened_12 : decode cX10_findEvened 12 = .ok (.iload_n 1, 1) := by decide +kernel
theorem dX10_findEvened_13 : decode cX10_findEvened 13 = .ok (.aload_n 0, 1) := by decide +kernel
theorem dX10_findEvened_14 : decode cX10_findEvened 14 = .ok (.getfield 59, 3) := by decide +kernel
theorem dX10_findEvened_17 : decode cX10_findEvened 17 = .ok (.iload_n 1, 1) := by decide +kernel
theorem dX10_findEvened_18 : decode cX10_findEvened 18 = .ok (.iaload, 1) := by decide +kernel
theorem dX10_findEvened_19 : decode cX10_findEvened 19 = .ok (.invokevirtual 202, 3) := by decide +kernel
theorem dX10_findEvened_22 : decode cX10_findEvened 22 = .ok (.i2l, 1) := by decide +kernel
theorem dX10_findEvened_23 : decode cX10_findEvened 23 = .ok (.aload_n 0, 1) := by decide +kernel
theorem dX10_findEvened_24 : decode cX10_findEvened 24 = .ok (.getfield 271, 3) := by decide +kernel
theorem dX10_findEvened_27 : decode cX10_findEvened 27 = .ok (.lmul, 1) := by decide +kernel
theorem dX10_findEvened_28 : decode cX10_findEvened 28 = .ok (.aload_n 0, 1) := by decide +kernel
theorem dX10_findEvened_29 : decode cX10_findEvened 29 = .ok (.getfield 267, 3) := by decide +kernel
theorem dX10_findEvened_32 : decode cX10_findEvened 32 = .ok (.lsub, 1) := by decide +kernel
theorem dX10_findEvened_33 : decode cX10_findEvened 33 = .ok (.putfield 267, 3) := by decide +kernel
theorem dX10_findEvened_36 : decode cX10_findEvened 36 = .ok (.aload_n 0, 1) := by decide +kernel
theorem dX10_findEvened_37 : decode cX10_findEvened 37 = .ok (.getfield 267, 3) := by decide +kernel
theorem dX10_findEvened_40 : decode cX10_findEvened 40 = .ok (.aload_n 0, 1) := by decide +kernel
theorem dX10_findEvened_41 : decode cX10_findEvened 41 = .ok (.getfield 271, 3) := by decide +kernel
theorem dX10_findEvened_44 : decode cX10_findEvened 44 = .ok (.invokestatic 281, 3) := by decide +kernel
theorem dX10_findEvened_47 : decode cX10_findEvened 47 = .ok (.lstore_n 2, 1) := by decide +kernel
theorem dX10_findEvened_48 : decode cX10_findEvened 48 = .ok (.aload_n 0, 1) := by decide +kernel
theorem dX10_findEvened_49 : decode cX10_findEvened 49 = .ok (.dup, 1) := by decide +kernel
theorem dX10_findEvened_50 : decode cX10_findEvened 50 = .ok (.getfield 267, 3) := by decide +kernel
theorem dX10_findEvened_53 : decode cX10_findEvened 53 = .ok (.lload_n 2, 1) := by decide +kernel
theorem dX10_findEvened_54 : decode cX10_findEvened 54 = .ok (.ldiv, 1) := by decide +kernel
theorem dX10_findEvened_55 : decode cX10_findEvened 55 = .ok (.putfield 267, 3) := by decide +kernel
theorem dX10_findEvened_58 : decode cX10_findEvened 58 = .ok (.aload_n 0, 1) := by decide +kernel
theorem dX10_findEvened_59 : decode cX10_findEvened 59 = .ok (.dup, 1) := by decide +kernel
theorem dX10_findEvened_60 : decode cX10_findEvened 60 = .ok (.getfield 271, 3) := by decide +kernel
theorem dX10_findEvened_63 : decode cX10_findEvened 63 = .ok (.lload_n 2, 1) := by decide +kernel
theorem dX10_findEvened_64 : decode cX10_findEvened 64 = .ok (.ldiv, 1) := by decide +kernel
theorem dX10_findEvened_65 : decode cX10_findEvened 65 = .ok (.putfield 271, 3) := by decide +kernel
theorem dX10_findEvened_68 : decode cX10_findEvened 68 = .ok (.return_, 1) := by decide +kernel
theorem dX10_evened_0 : decode cX10_evened 0 = .ok (.aload_n 0, 1) := by decide +kernel
theorem dX10_evened_1 : decode cX10_evened 1 = .ok (.iload_n 1, 1) := by decide +kernel
theorem dX10_evened_2 : decode cX10_evened 2 = .ok (.invokevirtual 199, 3) := by decide +kernel
theorem dX10_evened_5 : decode cX10_evened 5 = .ok (.ifCond .ne 9, 3) := by decide +kernel
theorem dX10_evened_8 : decode cX10_evened 8 = .ok (.aload_n 0, 1) := by decide +kernel
theorem dX10_evened_9 : decode cX10_evened 9 = .ok (.iconst (-1), 1) := by decide +kernel
theorem dX10_evened_10 : decode cX10_evened 10 = .ok (.invokevirtual 285, 3) := by decide +kernel
theorem dX10_evened_13 : decode cX10_evened 13 = .ok (.lreturn, 1) := by decide +kernel
theorem dX10_evened_14 : decode cX10_evened 14 = .ok (.iload_n 2, 1) := by decide +kernel
theorem dX10_evened_15 : decode cX10_evened 15 = .ok (.iconst 0, 1) := by decide +kernel
theorem dX10_evened_16 : decode cX10_evened 16 = .ok (.iconst 1, 1) := by decide +kernel
theorem dX10_evened_17 : decode cX10_evened 17 = .ok (.invokestatic 168, 3) := by decide +kernel
theorem dX10_evened_20 : decode cX10_evened 20 = .ok (.ifCond .ne 10, 3) := by decide +kernel
theorem dX10_evened_23 : decode cX10_evened 23 = .ok (.aload_n 0, 1) := by decide +kernel
theorem dX10_evened_24 : decode cX10_evened 24 = .ok (.bipush (-2), 2) := by decide +kernel
theorem dX10_evened_26 : decode cX10_evened 26 = .ok (.invokevirtual 285, 3) := by decide +kernel
theorem dX10_evened_29 : decode cX10_evened 29 = .ok (.lreturn, 1) := by decide +kernel
theorem dX10_evened_30 : decode cX10_evened 30 = .ok (.aload_n 0, 1) := by decide +kernel
theorem dX10_evened_31 : decode cX10_evened 31 = .ok (.iload_n 1, 1) := by decide +kernel
theorem dX10_evened_32 : decode cX10_evened 32 = .ok (.invokevirtual 292, 3) := by decide +kernel
theorem dX10_evened_35 : decode cX10_evened 35 = .ok (.iload_n 2, 1) := by decide +kernel
theorem dX10_evened_36 : decode cX10_evened 36 = .ok (.ifCond .ne 10, 3) := by decide +kernel
theorem dX10_evened_39 : decode cX10_evened 39 = .ok (.aload_n 0, 1) := by decide +kernel
theorem dX10_evened_40 : decode cX10_evened 40 = .ok (.getfield 267, 3) := by decide +kernel
theorem dX10_evened_43 : decode cX10_evened 43 = .ok (.goto 7, 3) := by decide +kernel
theorem dX10_evened_46 : decode cX10_evened 46 = .ok (.aload_n 0, 1) := by decide +kernel
theorem dX10_evened_47 : decode cX10_evened 47 = .ok (.getfield 271, 3) := by decide +kernel
theorem dX10_evened_50 : decode cX10_evened 50 = .ok (.lreturn, 1) := by decide +kernel
theorem dX10_others_0 : decode cX10_others 0 = .ok (.iconst 0, 1) := by decide +kernel
theorem dX10_others_1 : decode cX10_others 1 = .ok (.istore_n 1, 1) := by decide +kernel
theorem dX10_others_2 : decode cX10_others 2 = .ok (.iconst 0, 1) := by decide +kernel
theorem dX10_others_3 : decode cX10_others 3 = .ok (.istore_n 2, 1) := by decide +kernel
theorem dX10_others_4 : decode cX10_others 4 = .ok (.iload_n 2, 1) := by decide +kernel
theorem dX10_others_5 : decode cX10_others 5 = .ok (.aload_n 0, 1) := by decide +kernel
theorem dX10_others_6 : decode cX10_others 6 = .ok (.getfield 165, 3) := by decide +kernel
theorem dX10_others_9 : decode cX10_others 9 = .ok (.if_icmp .ge 79, 3) := by decide +kernel
theorem dX10_others_12 : decode cX10_others 12 = .ok (.aload_n 0, 1) := by decide +kernel
theorem dX10_others_13 : decode cX10_others 13 = .ok (.iload_n 2, 1) := by decide +kernel
theorem dX10_others_14 : decode cX10_others 14 = .ok (.aload_n 0, 1) := by decide +kernel
theorem dX10_others_15 : decode cX10_others 15 = .ok (.getfield 179, 3) := by decide +kernel
theorem dX10_others_18 : decode cX10_others 18 = .ok (.aload_n 0, 1) := by decide +kernel
theorem dX10_others_19 : decode cX10_others 19 = .ok (.getfield 179, 3) := by decide +kernel
theorem dX10_others_22 : decode cX10_others 22 = .ok (.invokevirtual 212, 3) := by decide +kernel
theorem dX10_others_25 : decode cX10_others 25 = .ok (.istore_n 3, 1) := by decide +kernel
theorem dX10_others_26 : decode cX10_others 26 = .ok (.aload_n 0, 1) := by decide +kernel
theorem dX10_others_27 : decode cX10_others 27 = .ok (.iload_n 2, 1) := by decide +kernel
theorem dX10_others_28 : decode cX10_others 28 = .ok (.aload_n 0, 1) := by decide +kernel
theorem dX10_others_29 : decode cX10_others 29 = .ok (.getfield 179, 3) := by decide +kernel
theorem dX10_others_32 : decode cX10_others 32 = .ok (.aload_n 0, 1) := by decide +kernel
theorem dX10_others_33 : decode cX10_others 33 = .ok (.getfield 179, 3) := by decide +kernel
theorem dX10_others_36 : decode cX10_others 36 = .ok (.invokevirtual 220, 3) := by decide +kernel
theorem dX10_others_39 : decode cX10_others 39 = .ok (.istore 4, 2) := by decide +kernel
theorem dX10_others_41 : decode cX10_others 41 = .ok (.iload 4, 2) := by decide +kernel
theorem dX10_others_43 : decode cX10_others 43 = .ok (.ifCond .le 39, 3) := by decide +kernel
theorem dX10_others_46 : decode cX10_others 46 = .ok (.aload_n 0, 1) := by decide +kernel
theorem dX10_others_47 : decode cX10_others 47 = .ok (.iload_n 3, 1) := by decide +kernel
theorem dX10_others_48 : decode cX10_others 48 = .ok (.invokevirtual 292, 3) := by decide +kernel
theorem dX10_others_51 : decode cX10_others 51 = .ok (.iload_n 1, 1) := by decide +kernel
theorem dX10_others_52 : decode cX10_others 52 = .ok (.aload_n 0, 1) := by decide +kernel
theorem dX10_others_53 : decode cX10_others 53 = .ok (.aload_n 0, 1) := by decide +kernel
theorem dX10_others_54 : decode cX10_others 54 = .ok (.getfield 267, 3) := by decide +kernel
theorem dX10_others_57 : decode cX10_others 57 = .ok (.aload_n 0, 1) := by decide +kernel
theorem dX10_others_58 : decode cX10_others 58 = .ok (.getfield 271, 3) := by decide +kernel
theorem dX10_others_61 : decode cX10_others 61 = .ok (.aload_n 0, 1) := by decide +kernel
theorem dX10_others_62 : decode cX10_others 62 = .ok (.getfield 59, 3) := by decide +kernel
theorem dX10_others_65 : decode cX10_others 65 = .ok (.iload_n 3, 1) := by decide +kernel
theorem dX10_others_66 : decode cX10_others 66 = .ok (.iaload, 1) := by decide +kernel
theorem dX10_others_67 : decode cX10_others 67 = .ok (.invokevirtual 216, 3) := by decide +kernel
theorem dX10_others_70 : decode cX10_others 70 = .ok (.iload 4, 2) := by decide +kernel
theorem dX10_others_72 : decode cX10_others 72 = .ok (.if_icmp .ne 7, 3) := by decide +kernel
theorem dX10_others_75 : decode cX10_others 75 = .ok (.iconst 0, 1) := by decide +kernel
theorem dX10_others_76 : decode cX10_others 76 = .ok (.goto 4, 3) := by decide +kernel
theorem dX10_others_79 : decode cX10_others 79 = .ok (.iconst 1, 1) := by decide +kernel
theorem dX10_others_80 : decode cX10_others 80 = .ok (.iadd, 1) := by decide +kernel
theorem dX10_others_81 : decode cX10_others 81 = .ok (.istore_n 1, 1) := by decide +kernel
theorem dX10_others_82 : decode cX10_others 82 = .ok (.iinc 2 1, 3) := by decide +kernel
theorem dX10_others_85 : decode cX10_others 85 = .ok (.goto (-81), 3) := by decide +kernel
theorem dX10_others_88 : decode cX10_others 88 = .ok (.iload_n 1, 1) := by decide +kernel
theorem dX10_others_89 : decode cX10_others 89 = .ok (.ireturn, 1) := by decide +kernel
theorem dX10_swap_0 : decode cX10_swap 0 = .ok (.iload_n 1, 1) := by decide +kernel
theorem dX10_swap_1 : decode cX10_swap 1 = .ok (.ifCond .lt 8, 3) := by decide +kernel
theorem dX10_swap_4 : decode cX10_swap 4 = .ok (.iload_n 2, 1) := by decide +kernel
theorem dX10_swap_5 : decode cX10_swap 5 = .ok (.iconst 2, 1) := by decide +kernel
theorem dX10_swap_6 : decode cX10_swap 6 = .ok (.if_icmp .ge 10, 3) := by decide +kernel
theorem dX10_swap_9 : decode cX10_swap 9 = .ok (.aload_n 0, 1) := by decide +kernel
theorem dX10_swap_10 : decode cX10_swap 10 = .ok (.bipush (-4), 2) := by decide +kernel
theorem dX10_swap_12 : decode cX10_swap 12 = .ok (.invokevirtual 175, 3) := by decide +kernel
theorem dX10_swap_15 : decode cX10_swap 15 = .ok (.ireturn, 1) := by decide +kernel
theorem dX10_swap_16 : decode cX10_swap 16 = .ok (.iload_n 1, 1) := by decide +kernel
theorem dX10_swap_17 : decode cX10_swap 17 = .ok (.sipush 9999, 3) := by decide +kernel
theorem dX10_swap_20 : decode cX10_swap 20 = .ok (.if_icmp .gt 8, 3) := by decide +kernel
theorem dX10_swap_23 : decode cX10_swap 23 = .ok (.iload_n 2, 1) := by decide +kernel
theorem dX10_swap_24 : decode cX10_swap 24 = .ok (.iconst 5, 1) := by decide +kernel
theorem dX10_swap_25 : decode cX10_swap 25 = .ok (.if_icmp .le 10, 3) := by decide +kernel
theorem dX10_swap_28 : decode cX10_swap 28 = .ok (.aload_n 0, 1) := by decide +kernel
theorem dX10_swap_29 : decode cX10_swap 29 = .ok (.bipush (-6), 2) := by decide +kernel
theorem dX10_swap_31 : decode cX10_swap 31 = .ok (.invokevirtual 175, 3) := by decide +kernel
theorem dX10_swap_34 : decode cX10_swap 34 = .ok (.ireturn, 1) := by decide +kernel
theorem dX10_swap_35 : decode cX10_swap 35 = .ok (.iload_n 3, 1) := by decide +kernel
theorem dX10_swap_36 : decode cX10_swap 36 = .ok (.iconst 0, 1) := by decide +kernel
theorem dX10_swap_37 : decode cX10_swap 37 = .ok (.iload_n 2, 1) := by decide +kernel
theorem dX10_swap_38 : decode cX10_swap 38 = .ok (.iconst 1, 1) := by decide +kernel
theorem dX10_swap_39 : decode cX10_swap 39 = .ok (.isub, 1) := by decide +kernel
theorem dX10_swap_40 : decode cX10_swap 40 = .ok (.invokestatic 168, 3) := by decide +kernel
theorem dX10_swap_43 : decode cX10_swap 43 = .ok (.ifCond .ne 9, 3) := by decide +kernel
theorem dX10_swap_46 : decode cX10_swap 46 = .ok (.aload_n 0, 1) := by decide +kernel
theorem dX10_swap_47 : decode cX10_swap 47 = .ok (.iconst (-1), 1) := by decide +kernel
theorem dX10_swap_48 : decode cX10_swap 48 = .ok (.invokevirtual 175, 3) := by decide +kernel
theorem dX10_swap_51 : decode cX10_swap 51 = .ok (.ireturn, 1) := by decide +kernel
theorem dX10_swap_52 : decode cX10_swap 52 = .ok (.iconst 0, 1) := by decide +kernel
theorem dX10_swap_53 : decode cX10_swap 53 = .ok (.istore 4, 2) := by decide +kernel
theorem dX10_swap_55 : decode cX10_swap 55 = .ok (.iload 4, 2) := by decide +kernel
theorem dX10_swap_57 : decode cX10_swap 57 = .ok (.iload_n 2, 1) := by decide +kernel
theorem dX10_swap_58 : decode cX10_swap 58 = .ok (.if_icmp .ge 18, 3) := by decide +kernel
theorem dX10_swap_61 : decode cX10_swap 61 = .ok (.aload_n 0, 1) := by decide +kernel
theorem dX10_swap_62 : decode cX10_swap 62 = .ok (.getfield 127, 3) := by decide +kernel
theorem dX10_swap_65 : decode cX10_swap 65 = .ok (.iload 4, 2) := by decide +kernel
theorem dX10_swap_67 : decode cX10_swap 67 = .ok (.iload 4, 2) := by decide +kernel
theorem dX10_swap_69 : decode cX10_swap 69 = .ok (.iastore, 1) := by decide +kernel
theorem dX10_swap_70 : decode cX10_swap 70 = .ok (.iinc 4 1, 3) := by decide +kernel
theorem dX10_swap_73 : decode cX10_swap 73 = .ok (.goto (-18), 3) := by decide +kernel
theorem dX10_swap_76 : decode cX10_swap 76 = .ok (.iload_n 1, 1) := by decide +kernel
theorem dX10_swap_77 : decode cX10_swap 77 = .ok (.istore 4, 2) := by decide +kernel
theorem dX10_swap_79 : decode cX10_swap 79 = .ok (.iload_n 2, 1) := by decide +kernel
theorem dX10_swap_80 : decode cX10_swap 80 = .ok (.iconst 1, 1) := by decide +kernel
theorem dX10_swap_81 : decode cX10_swap 81 = .ok (.isub, 1) := by decide +kernel
theorem dX10_swap_82 : decode cX10_swap 82 = .ok (.istore 5, 2) := by decide +kernel
theorem dX10_swap_84 : decode cX10_swap 84 = .ok (.iload 5, 2) := by decide +kernel
theorem dX10_swap_86 : decode cX10_swap 86 = .ok (.ifCond .le 64, 3) := by decide +kernel
theorem dX10_swap_89 : decode cX10_swap 89 = .ok (.iload 4, 2) := by decide +kernel
theorem dX10_swap_91 : decode cX10_swap 91 = .ok (.bipush 37, 2) := by decide +kernel
theorem dX10_swap_93 : decode cX10_swap 93 = .ok (.imul, 1) := by decide +kernel
theorem dX10_swap_94 : decode cX10_swap 94 = .ok (.bipush 101, 2) := by decide +kernel
theorem dX10_swap_96 : decode cX10_swap 96 = .ok (.iadd, 1) := by decide +kernel
theorem dX10_swap_97 : decode cX10_swap 97 = .ok (.sipush 10007, 3) := by decide +kernel
theorem dX10_swap_100 : decode cX10_swap 100 = .ok (.irem, 1) := by decide +kernel
theorem dX10_swap_101 : decode cX10_swap 101 = .ok (.istore 4, 2) := by decide +kernel
theorem dX10_swap_103 : decode cX10_swap 103 = .ok (.iload 4, 2) := by decide +kernel
theorem dX10_swap_105 : decode cX10_swap 105 = .ok (.iload 5, 2) := by decide +kernel
theorem dX10_swap_107 : decode cX10_swap 107 = .ok (.iconst 1, 1) := by decide +kernel
theorem dX10_swap_108 : decode cX10_swap 108 = .ok (.iadd, 1) := by decide +kernel
theorem dX10_swap_109 : decode cX10_swap 109 = .ok (.irem, 1) := by decide +kernel
theorem dX10_swap_110 : decode cX10_swap 110 = .ok (.istore 6, 2) := by decide +kernel
theorem dX10_swap_112 : decode cX10_swap 112 = .ok (.aload_n 0, 1) := by decide +kernel
theorem dX10_swap_113 : decode cX10_swap 113 = .ok (.getfield 127, 3) := by decide +kernel
theorem dX10_swap_116 : decode cX10_swap 116 = .ok (.iload 5, 2) := by decide +kernel
theorem dX10_swap_118 : decode cX10_swap 118 = .ok (.iaload, 1) := by decide +kernel
theorem dX10_swap_119 : decode cX10_swap 119 = .ok (.istore 7, 2) := by decide +kernel
theorem dX10_swap_121 : decode cX10_swap 121 = .ok (.aload_n 0, 1) := by decide +kernel
theorem dX10_swap_122 : decode cX10_swap 122 = .ok (.getfield 127, 3) := by decide +kernel
theorem dX10_swap_125 : decode cX10_swap 125 = .ok (.iload 5, 2) := by decide +kernel
theorem dX10_swap_127 : decode cX10_swap 127 = .ok (.aload_n 0, 1) := by decide +kernel
theorem dX10_swap_128 : decode cX10_swap 128 = .ok (.getfield 127, 3) := by decide +kernel
theorem dX10_swap_131 : decode cX10_swap 131 = .ok (.iload 6, 2) := by decide +kernel
theorem dX10_swap_133 : decode cX10_swap 133 = .ok (.iaload, 1) := by decide +kernel
theorem dX10_swap_134 : decode cX10_swap 134 = .ok (.iastore, 1) := by decide +kernel
theorem dX10_swap_135 : decode cX10_swap 135 = .ok (.aload_n 0, 1) := by decide +kernel
theorem dX10_swap_136 : decode cX10_swap 136 = .ok (.getfield 127, 3) := by decide +kernel
theorem dX10_swap_139 : decode cX10_swap 139 = .ok (.iload 6, 2) := by decide +kernel
theorem dX10_swap_141 : decode cX10_swap 141 = .ok (.iload 7, 2) := by decide +kernel
theorem dX10_swap_143 : decode cX10_swap 143 = .ok (.iastore, 1) := by decide +kernel
theorem dX10_swap_144 : decode cX10_swap 144 = .ok (.iinc 5 (-1), 3) := by decide +kernel
theorem dX10_swap_147 : decode cX10_swap 147 = .ok (.goto (-63), 3) := by decide +kernel
theorem dX10_swap_150 : decode cX10_swap 150 = .ok (.aload_n 0, 1) := by decide +kernel
theorem dX10_swap_151 : decode cX10_swap 151 = .ok (.getfield 127, 3) := by decide +kernel
theorem dX10_swap_154 : decode cX10_swap 154 = .ok (.iload_n 3, 1) := by decide +kernel
theorem dX10_swap_155 : decode cX10_swap 155 = .ok (.iaload, 1) := by decide +kernel
theorem dX10_swap_156 : decode cX10_swap 156 = .ok (.ireturn, 1) := by decide +kernel
theorem dX10_shut_0 : decode cX10_shut 0 = .ok (.aload_n 0, 1) := by decide +kernel
theorem dX10_shut_1 : decode cX10_shut 1 = .ok (.iload_n 1, 1) := by decide +kernel
theorem dX10_shut_2 : decode cX10_shut 2 = .ok (.invokevirtual 196, 3) := by decide +kernel
theorem dX10_shut_5 : decode cX10_shut 5 = .ok (.ifCond .ne 9, 3) := by decide +kernel
theorem dX10_shut_8 : decode cX10_shut 8 = .ok (.aload_n 0, 1) := by decide +kernel
theorem dX10_shut_9 : decode cX10_shut 9 = .ok (.iconst (-1), 1) := by decide +kernel
theorem dX10_shut_10 : decode cX10_shut 10 = .ok (.invokevirtual 175, 3) := by decide +kernel
theorem dX10_shut_13 : decode cX10_shut 13 = .ok (.ireturn, 1) := by decide +kernel
theorem dX10_shut_14 : decode cX10_shut 14 = .ok (.iload_n 2, 1) := by decide +kernel
theorem dX10_shut_15 : decode cX10_shut 15 = .ok (.ifCond .lt 8, 3) := by decide +kernel
theorem dX10_shut_18 : decode cX10_shut 18 = .ok (.iload_n 3, 1) := by decide +kernel
theorem dX10_shut_19 : decode cX10_shut 19 = .ok (.iload_n 2, 1) := by decide +kernel
theorem dX10_shut_20 : decode cX10_shut 20 = .ok (.if_icmp .ge 10, 3) := by decide +kernel
theorem dX10_shut_23 : decode cX10_shut 23 = .ok (.aload_n 0, 1) := by decide +kernel
theorem dX10_shut_24 : decode cX10_shut 24 = .ok (.bipush (-4), 2) := by decide +kernel
theorem dX10_shut_26 : decode cX10_shut 26 = .ok (.invokevirtual 175, 3) := by decide +kernel
theorem dX10_shut_29 : decode cX10_shut 29 = .ok (.ireturn, 1) := by decide +kernel
theorem dX10_shut_30 : decode cX10_shut 30 = .ok (.iload_n 3, 1) := by decide +kernel
theorem dX10_shut_31 : decode cX10_shut 31 = .ok (.sipush 1500, 3) := by decide +kernel
theorem dX10_shut_34 : decode cX10_shut 34 = .ok (.if_icmp .gt 14, 3) := by decide +kernel
theorem dX10_shut_37 : decode cX10_shut 37 = .ok (.aload_n 0, 1) := by decide +kernel
theorem dX10_shut_38 : decode cX10_shut 38 = .ok (.getfield 130, 3) := by decide +kernel
theorem dX10_shut_41 : decode cX10_shut 41 = .ok (.iload_n 1, 1) := by decide +kernel
theorem dX10_shut_42 : decode cX10_shut 42 = .ok (.iaload, 1) := by decide +kernel
theorem dX10_shut_43 : decode cX10_shut 43 = .ok (.bipush 8, 2) := by decide +kernel
theorem dX10_shut_45 : decode cX10_shut 45 = .ok (.if_icmp .ne 10, 3) := by decide +kernel
theorem dX10_shut_48 : decode cX10_shut 48 = .ok (.aload_n 0, 1) := by decide +kernel
theorem dX10_shut_49 : decode cX10_shut 49 = .ok (.bipush (-6), 2) := by decide +kernel
theorem dX10_shut_51 : decode cX10_shut 51 = .ok (.invokevirtual 175, 3) := by decide +kernel
theorem dX10_shut_54 : decode cX10_shut 54 = .ok (.ireturn, 1) := by decide +kernel
theorem dX10_shut_55 : decode cX10_shut 55 = .ok (.aload_n 0, 1) := by decide +kernel
theorem dX10_shut_56 : decode cX10_shut 56 = .ok (.getfield 133, 3) := by decide +kernel
theorem dX10_shut_59 : decode cX10_shut 59 = .ok (.bipush 8, 2) := by decide +kernel
theorem dX10_shut_61 : decode cX10_shut 61 = .ok (.iload_n 1, 1) := by decide +kernel
theorem dX10_shut_62 : decode cX10_shut 62 = .ok (.imul, 1) := by decide +kernel
theorem dX10_shut_63 : decode cX10_shut 63 = .ok (.aload_n 0, 1) := by decide +kernel
theorem dX10_shut_64 : decode cX10_shut 64 = .ok (.getfield 130, 3) := by decide +kernel
theorem dX10_shut_67 : decode cX10_shut 67 = .ok (.iload_n 1, 1) := by decide +kernel
theorem dX10_shut_68 : decode cX10_shut 68 = .ok (.iaload, 1) := by decide +kernel
theorem dX10_shut_69 : decode cX10_shut 69 = .ok (.iadd, 1) := by decide +kernel
theorem dX10_shut_70 : decode cX10_shut 70 = .ok (.iload_n 2, 1) := by decide +kernel
theorem dX10_shut_71 : decode cX10_shut 71 = .ok (.iastore, 1) := by decide +kernel
theorem dX10_shut_72 : decode cX10_shut 72 = .ok (.aload_n 0, 1) := by decide +kernel
theorem dX10_shut_73 : decode cX10_shut 73 = .ok (.getfield 136, 3) := by decide +kernel
theorem dX10_shut_76 : decode cX10_shut 76 = .ok (.bipush 8, 2) := by decide +kernel
theorem dX10_shut_78 : decode cX10_shut 78 = .ok (.iload_n 1, 1) := by decide +kernel
theorem dX10_shut_79 : decode cX10_shut 79 = .ok (.imul, 1) := by decide +kernel
theorem dX10_shut_80 : decode cX10_shut 80 = .ok (.aload_n 0, 1) := by decide +kernel
theorem dX10_shut_81 : decode cX10_shut 81 = .ok (.getfield 130, 3) := by decide +kernel
theorem dX10_shut_84 : decode cX10_shut 84 = .ok (.iload_n 1, 1) := by decide +kernel
theorem dX10_shut_85 : decode cX10_shut 85 = .ok (.iaload, 1) := by decide +kernel
theorem dX10_shut_86 : decode cX10_shut 86 = .ok (.iadd, 1) := by decide +kernel
theorem dX10_shut_87 : decode cX10_shut 87 = .ok (.iload_n 3, 1) := by decide +kernel
theorem dX10_shut_88 : decode cX10_shut 88 = .ok (.iastore, 1) := by decide +kernel
theorem dX10_shut_89 : decode cX10_shut 89 = .ok (.aload_n 0, 1) := by decide +kernel
theorem dX10_shut_90 : decode cX10_shut 90 = .ok (.getfield 130, 3) := by decide +kernel
theorem dX10_shut_93 : decode cX10_shut 93 = .ok (.iload_n 1, 1) := by decide +kernel
theorem dX10_shut_94 : decode cX10_shut 94 = .ok (.dup2, 1) := by decide +kernel
theorem dX10_shut_95 : decode cX10_shut 95 = .ok (.iaload, 1) := by decide +kernel
theorem dX10_shut_96 : decode cX10_shut 96 = .ok (.iconst 1, 1) := by decide +kernel
theorem dX10_shut_97 : decode cX10_shut 97 = .ok (.iadd, 1) := by decide +kernel
theorem dX10_shut_98 : decode cX10_shut 98 = .ok (.iastore, 1) := by decide +kernel
theorem dX10_shut_99 : decode cX10_shut 99 = .ok (.aload_n 0, 1) := by decide +kernel
theorem dX10_shut_100 : decode cX10_shut 100 = .ok (.getfield 130, 3) := by decide +kernel
theorem dX10_shut_103 : decode cX10_shut 103 = .ok (.iload_n 1, 1) := by decide +kernel
theorem dX10_shut_104 : decode cX10_shut 104 = .ok (.iaload, 1) := by decide +kernel
theorem dX10_shut_105 : decode cX10_shut 105 = .ok (.ireturn, 1) := by decide +kernel
theorem dX10_complaint_0 : decode cX10_complaint 0 = .ok (.iload_n 1, 1) := by decide +kernel
theorem dX10_complaint_1 : decode cX10_complaint 1 = .ok (.iconst 0, 1) := by decide +kernel
theorem dX10_complaint_2 : decode cX10_complaint 2 = .ok (.iconst 5, 1) := by decide +kernel
theorem dX10_complaint_3 : decode cX10_complaint 3 = .ok (.invokestatic 168, 3) := by decide +kernel
theorem dX10_complaint_6 : decode cX10_complaint 6 = .ok (.ifCond .eq 14, 3) := by decide +kernel
theorem dX10_complaint_9 : decode cX10_complaint 9 = .ok (.iload 4, 2) := by decide +kernel
theorem dX10_complaint_11 : decode cX10_complaint 11 = .ok (.iconst 0, 1) := by decide +kernel
theorem dX10_complaint_12 : decode cX10_complaint 12 = .ok (.bipush 7, 2) := by decide +kernel
theorem dX10_complaint_14 : decode cX10_complaint 14 = .ok (.invokestatic 168, 3) := by decide +kernel
theorem dX10_complaint_17 : decode cX10_complaint 17 = .ok (.ifCond .ne 9, 3) := by decide +kernel
theorem dX10_complaint_20 : decode cX10_complaint 20 = .ok (.aload_n 0, 1) := by decide +kernel
theorem dX10_complaint_21 : decode cX10_complaint 21 = .ok (.iconst (-1), 1) := by decide +kernel
theorem dX10_complaint_22 : decode cX10_complaint 22 = .ok (.invokevirtual 175, 3) := by decide +kernel
theorem dX10_complaint_25 : decode cX10_complaint 25 = .ok (.ireturn, 1) := by decide +kernel
theorem dX10_complaint_26 : decode cX10_complaint 26 = .ok (.iload_n 2, 1) := by decide +kernel
theorem dX10_complaint_27 : decode cX10_complaint 27 = .ok (.ifCond .lt 8, 3) := by decide +kernel
theorem dX10_complaint_30 : decode cX10_complaint 30 = .ok (.iload_n 3, 1) := by decide +kernel
theorem dX10_complaint_31 : decode cX10_complaint 31 = .ok (.iload_n 2, 1) := by decide +kernel
theorem dX10_complaint_32 : decode cX10_complaint 32 = .ok (.if_icmp .ge 10, 3) := by decide +kernel
theorem dX10_complaint_35 : decode cX10_complaint 35 = .ok (.aload_n 0, 1) := by decide +kernel
theorem dX10_complaint_36 : decode cX10_complaint 36 = .ok (.bipush (-4), 2) := by decide +kernel
theorem dX10_complaint_38 : decode cX10_complaint 38 = .ok (.invokevirtual 175, 3) := by decide +kernel
theorem dX10_complaint_41 : decode cX10_complaint 41 = .ok (.ireturn, 1) := by decide +kernel
theorem dX10_complaint_42 : decode cX10_complaint 42 = .ok (.iload_n 3, 1) := by decide +kernel
theorem dX10_complaint_43 : decode cX10_complaint 43 = .ok (.sipush 1500, 3) := by decide +kernel
theorem dX10_complaint_46 : decode cX10_complaint 46 = .ok (.if_icmp .gt 12, 3) := by decide +kernel
theorem dX10_complaint_49 : decode cX10_complaint 49 = .ok (.aload_n 0, 1) := by decide +kernel
theorem dX10_complaint_50 : decode cX10_complaint 50 = .ok (.getfield 295, 3) := by decide +kernel
theorem dX10_complaint_53 : decode cX10_complaint 53 = .ok (.bipush 20, 2) := by decide +kernel
theorem dX10_complaint_55 : decode cX10_complaint 55 = .ok (.if_icmp .ne 10, 3) := by decide +kernel
theorem dX10_complaint_58 : decode cX10_complaint 58 = .ok (.aload_n 0, 1) := by decide +kernel
theorem dX10_complaint_59 : decode cX10_complaint 59 = .ok (.bipush (-6), 2) := by decide +kernel
theorem dX10_complaint_61 : decode cX10_complaint 61 = .ok (.invokevirtual 175, 3) := by decide +kernel
theorem dX10_complaint_64 : decode cX10_complaint 64 = .ok (.ireturn, 1) := by decide +kernel
theorem dX10_complaint_65 : decode cX10_complaint 65 = .ok (.aload_n 0, 1) := by decide +kernel
theorem dX10_complaint_66 : decode cX10_complaint 66 = .ok (.getfield 139, 3) := by decide +kernel
theorem dX10_complaint_69 : decode cX10_complaint 69 = .ok (.aload_n 0, 1) := by decide +kernel
theorem dX10_complaint_70 : decode cX10_complaint 70 = .ok (.getfield 295, 3) := by decide +kernel
theorem dX10_complaint_73 : decode cX10_complaint 73 = .ok (.iload_n 1, 1) := by decide +kernel
theorem dX10_complaint_74 : decode cX10_complaint 74 = .ok (.iastore, 1) := by decide +kernel
theorem dX10_complaint_75 : decode cX10_complaint 75 = .ok (.aload_n 0, 1) := by decide +kernel
theorem dX10_complaint_76 : decode cX10_complaint 76 = .ok (.getfield 142, 3) := by decide +kernel
theorem dX10_complaint_79 : decode cX10_complaint 79 = .ok (.aload_n 0, 1) := by decide +kernel
theorem dX10_complaint_80 : decode cX10_complaint 80 = .ok (.getfield 295, 3) := by decide +kernel
theorem dX10_complaint_83 : decode cX10_complaint 83 = .ok (.iload_n 2, 1) := by decide +kernel
theorem dX10_complaint_84 : decode cX10_complaint 84 = .ok (.iastore, 1) := by decide +kernel
theorem dX10_complaint_85 : decode cX10_complaint 85 = .ok (.aload_n 0, 1) := by decide +kernel
theorem dX10_complaint_86 : decode cX10_complaint 86 = .ok (.getfield 145, 3) := by decide +kernel
theorem dX10_complaint_89 : decode cX10_complaint 89 = .ok (.aload_n 0, 1) := by decide +kernel
theorem dX10_complaint_90 : decode cX10_complaint 90 = .ok (.getfield 295, 3) := by decide +kernel
theorem dX10_complaint_93 : decode cX10_complaint 93 = .ok (.iload_n 3, 1) := by decide +kernel
theorem dX10_complaint_94 : decode cX10_complaint 94 = .ok (.iastore, 1) := by decide +kernel
theorem dX10_complaint_95 : decode cX10_complaint 95 = .ok (.aload_n 0, 1) := by decide +kernel
theorem dX10_complaint_96 : decode cX10_complaint 96 = .ok (.getfield 148, 3) := by decide +kernel
theorem dX10_complaint_99 : decode cX10_complaint 99 = .ok (.aload_n 0, 1) := by decide +kernel
theorem dX10_complaint_100 : decode cX10_complaint 100 = .ok (.getfield 295, 3) := by decide +kernel
theorem dX10_complaint_103 : decode cX10_complaint 103 = .ok (.iload 4, 2) := by decide +kernel
theorem dX10_complaint_105 : decode cX10_complaint 105 = .ok (.iastore, 1) := by decide +kernel
theorem dX10_complaint_106 : decode cX10_complaint 106 = .ok (.aload_n 0, 1) := by decide +kernel
theorem dX10_complaint_107 : decode cX10_complaint 107 = .ok (.dup, 1) := by decide +kernel
theorem dX10_complaint_108 : decode cX10_complaint 108 = .ok (.getfield 295, 3) := by decide +kernel
theorem dX10_complaint_111 : decode cX10_complaint 111 = .ok (.iconst 1, 1) := by decide +kernel
theorem dX10_complaint_112 : decode cX10_complaint 112 = .ok (.iadd, 1) := by decide +kernel
theorem dX10_complaint_113 : decode cX10_complaint 113 = .ok (.putfield 295, 3) := by decide +kernel
theorem dX10_complaint_116 : decode cX10_complaint 116 = .ok (.aload_n 0, 1) := by decide +kernel
theorem dX10_complaint_117 : decode cX10_complaint 117 = .ok (.getfield 295, 3) := by decide +kernel
theorem dX10_complaint_120 : decode cX10_complaint 120 = .ok (.iconst 1, 1) := by decide +kernel
theorem dX10_complaint_121 : decode cX10_complaint 121 = .ok (.isub, 1) := by decide +kernel
theorem dX10_complaint_122 : decode cX10_complaint 122 = .ok (.ireturn, 1) := by decide +kernel
theorem dX10_weightOf_0 : decode cX10_weightOf 0 = .ok (.aload_n 0, 1) := by decide +kernel
theorem dX10_weightOf_1 : decode cX10_weightOf 1 = .ok (.getfield 31, 3) := by decide +kernel
theorem dX10_weightOf_4 : decode cX10_weightOf 4 = .ok (.iload_n 2, 1) := by decide +kernel
theorem dX10_weightOf_5 : decode cX10_weightOf 5 = .ok (.iaload, 1) := by decide +kernel
theorem dX10_weightOf_6 : decode cX10_weightOf 6 = .ok (.aload_n 0, 1) := by decide +kernel
theorem dX10_weightOf_7 : decode cX10_weightOf 7 = .ok (.getfield 139, 3) := by decide +kernel
theorem dX10_weightOf_10 : decode cX10_weightOf 10 = .ok (.iload_n 1, 1) := by decide +kernel
theorem dX10_weightOf_11 : decode cX10_weightOf 11 = .ok (.iaload, 1) := by decide +kernel
theorem dX10_weightOf_12 : decode cX10_weightOf 12 = .ok (.if_icmp .ne 21, 3) := by decide +kernel
theorem dX10_weightOf_15 : decode cX10_weightOf 15 = .ok (.aload_n 0, 1) := by decide +kernel
theorem dX10_weightOf_16 : decode cX10_weightOf 16 = .ok (.getfield 40, 3) := by decide +kernel
theorem dX10_weightOf_19 : decode cX10_weightOf 19 = .ok (.iload_n 2, 1) := by decide +kernel
theorem dX10_weightOf_20 : decode cX10_weightOf 20 = .ok (.iaload, 1) := by decide +kernel
theorem dX10_weightOf_21 : decode cX10_weightOf 21 = .ok (.aload_n 0, 1) := by decide +kernel
theorem dX10_weightOf_22 : decode cX10_weightOf 22 = .ok (.getfield 148, 3) := by decide +kernel
theorem dX10_weightOf_25 : decode cX10_weightOf 25 = .ok (.iload_n 1, 1) := by decide +kernel
theorem dX10_weightOf_26 : decode cX10_weightOf 26 = .ok (.iaload, 1) := by decide +kernel
theorem dX10_weightOf_27 : decode cX10_weightOf 27 = .ok (.ishr, 1) := by decide +kernel
theorem dX10_weightOf_28 : decode cX10_weightOf 28 = .ok (.iconst 1, 1) := by decide +kernel
theorem dX10_weightOf_29 : decode cX10_weightOf 29 = .ok (.iand, 1) := by decide +kernel
theorem dX10_weightOf_30 : decode cX10_weightOf 30 = .ok (.ifCond .ne 5, 3) := by decide +kernel
theorem dX10_weightOf_33 : decode cX10_weightOf 33 = .ok (.iconst 0, 1) := by decide +kernel
theorem dX10_weightOf_34 : decode cX10_weightOf 34 = .ok (.ireturn, 1) := by decide +kernel
theorem dX10_weightOf_35 : decode cX10_weightOf 35 = .ok (.iconst 0, 1) := by decide +kernel
theorem dX10_weightOf_36 : decode cX10_weightOf 36 = .ok (.istore_n 3, 1) := by decide +kernel
theorem dX10_weightOf_37 : decode cX10_weightOf 37 = .ok (.aload_n 0, 1) := by decide +kernel
theorem dX10_weightOf_38 : decode cX10_weightOf 38 = .ok (.getfield 142, 3) := by decide +kernel
theorem dX10_weightOf_41 : decode cX10_weightOf 41 = .ok (.iload_n 1, 1) := by decide +kernel
theorem dX10_weightOf_42 : decode cX10_weightOf 42 = .ok (.iaload, 1) := by decide +kernel
theorem dX10_weightOf_43 : decode cX10_weightOf 43 = .ok (.istore 4, 2) := by decide +kernel
theorem dX10_weightOf_45 : decode cX10_weightOf 45 = .ok (.iload 4, 2) := by decide +kernel
theorem dX10_weightOf_47 : decode cX10_weightOf 47 = .ok (.aload_n 0, 1) := by decide +kernel
theorem dX10_weightOf_48 : decode cX10_weightOf 48 = .ok (.getfield 145, 3) := by decide +kernel
theorem dX10_weightOf_51 : decode cX10_weightOf 51 = .ok (.iload_n 1, 1) := by decide +kernel
theorem dX10_weightOf_52 : decode cX10_weightOf 52 = .ok (.iaload, 1) := by decide +kernel
theorem dX10_weightOf_53 : decode cX10_weightOf 53 = .ok (.if_icmp .gt 89, 3) := by decide +kernel
theorem dX10_weightOf_56 : decode cX10_weightOf 56 = .ok (.iconst 0, 1) := by decide +kernel
theorem dX10_weightOf_57 : decode cX10_weightOf 57 = .ok (.istore 5, 2) := by decide +kernel
theorem dX10_weightOf_59 : decode cX10_weightOf 59 = .ok (.iconst 0, 1) := by decide +kernel
theorem dX10_weightOf_60 : decode cX10_weightOf 60 = .ok (.istore 6, 2) := by decide +kernel
theorem dX10_weightOf_62 : decode cX10_weightOf 62 = .ok (.iload 6, 2) := by decide +kernel
theorem dX10_weightOf_64 : decode cX10_weightOf 64 = .ok (.aload_n 0, 1) := by decide +kernel
theorem dX10_weightOf_65 : decode cX10_weightOf 65 = .ok (.getfield 130, 3) := by decide +kernel
theorem dX10_weightOf_68 : decode cX10_weightOf 68 = .ok (.iload_n 2, 1) := by decide +kernel
theorem dX10_weightOf_69 : decode cX10_weightOf 69 = .ok (.iaload, 1) := by decide +kernel
theorem dX10_weightOf_70 : decode cX10_weightOf 70 = .ok (.if_icmp .ge 53, 3) := by decide +kernel
theorem dX10_weightOf_73 : decode cX10_weightOf 73 = .ok (.iload 5, 2) := by decide +kernel
theorem dX10_weightOf_75 : decode cX10_weightOf 75 = .ok (.ifCond .ne 35, 3) := by decide +kernel
theorem dX10_weightOf_78 : decode cX10_weightOf 78 = .ok (.iload 4, 2) := by decide +kernel
theorem dX10_weightOf_80 : decode cX10_weightOf 80 = .ok (.aload_n 0, 1) := by decide +kernel
theorem dX10_weightOf_81 : decode cX10_weightOf 81 = .ok (.getfield 133, 3) := by decide +kernel
theorem dX10_weightOf_84 : decode cX10_weightOf 84 = .ok (.bipush 8, 2) := by decide +kernel
theorem dX10_weightOf_86 : decode cX10_weightOf 86 = .ok (.iload_n 2, 1) := by decide +kernel
theorem dX10_weightOf_87 : decode cX10_weightOf 87 = .ok (.imul, 1) := by decide +kernel
theorem dX10_weightOf_88 : decode cX10_weightOf 88 = .ok (.iload 6, 2) := by decide +kernel
theorem dX10_weightOf_90 : decode cX10_weightOf 90 = .ok (.iadd, 1) := by decide +kernel
theorem dX10_weightOf_91 : decode cX10_weightOf 91 = .ok (.iaload, 1) := by decide +kernel
theorem dX10_weightOf_92 : decode cX10_weightOf 92 = .ok (.aload_n 0, 1) := by decide +kernel
theorem dX10_weightOf_93 : decode cX10_weightOf 93 = .ok (.getfield 136, 3) := by decide +kernel
theorem dX10_weightOf_96 : decode cX10_weightOf 96 = .ok (.bipush 8, 2) := by decide +kernel
theorem dX10_weightOf_98 : decode cX10_weightOf 98 = .ok (.iload_n 2, 1) := by decide +kernel
theorem dX10_weightOf_99 : decode cX10_weightOf 99 = .ok (.imul, 1) := by decide +kernel
theorem dX10_weightOf_100 : decode cX10_weightOf 100 = .ok (.iload 6, 2) := by decide +kernel
theorem dX10_weightOf_102 : decode cX10_weightOf 102 = .ok (.iadd, 1) := by decide +kernel
theorem dX10_weightOf_103 : decode cX10_weightOf 103 = .ok (.iaload, 1) := by decide +kernel
theorem dX10_weightOf_104 : decode cX10_weightOf 104 = .ok (.invokestatic 168, 3) := by decide +kernel
theorem dX10_weightOf_107 : decode cX10_weightOf 107 = .ok (.ifCond .eq 7, 3) := by decide +kernel
theorem dX10_weightOf_110 : decode cX10_weightOf 110 = .ok (.iconst 1, 1) := by decide +kernel
theorem dX10_weightOf_111 : decode cX10_weightOf 111 = .ok (.goto 4, 3) := by decide +kernel
theorem dX10_weightOf_114 : decode cX10_weightOf 114 = .ok (.iconst 0, 1) := by decide +kernel
theorem dX10_weightOf_115 : decode cX10_weightOf 115 = .ok (.istore 5, 2) := by decide +kernel
theorem dX10_weightOf_117 : decode cX10_weightOf 117 = .ok (.iinc 6 1, 3) := by decide +kernel
theorem dX10_weightOf_120 : decode cX10_weightOf 120 = .ok (.goto (-58), 3) := by decide +kernel
theorem dX10_weightOf_123 : decode cX10_weightOf 123 = .ok (.iload_n 3, 1) := by decide +kernel
theorem dX10_weightOf_124 : decode cX10_weightOf 124 = .ok (.iload 5, 2) := by decide +kernel
theorem dX10_weightOf_126 : decode cX10_weightOf 126 = .ok (.ifCond .eq 7, 3) := by decide +kernel
theorem dX10_weightOf_129 : decode cX10_weightOf 129 = .ok (.iconst 0, 1) := by decide +kernel
theorem dX10_weightOf_130 : decode cX10_weightOf 130 = .ok (.goto 4, 3) := by decide +kernel
theorem dX10_weightOf_133 : decode cX10_weightOf 133 = .ok (.iconst 1, 1) := by decide +kernel
theorem dX10_weightOf_134 : decode cX10_weightOf 134 = .ok (.iadd, 1) := by decide +kernel
theorem dX10_weightOf_135 : decode cX10_weightOf 135 = .ok (.istore_n 3, 1) := by decide +kernel
theorem dX10_weightOf_136 : decode cX10_weightOf 136 = .ok (.iinc 4 1, 3) := by decide +kernel
theorem dX10_weightOf_139 : decode cX10_weightOf 139 = .ok (.goto (-94), 3) := by decide +kernel
theorem dX10_weightOf_142 : decode cX10_weightOf 142 = .ok (.iload_n 3, 1) := by decide +kernel
theorem dX10_weightOf_143 : decode cX10_weightOf 143 = .ok (.aload_n 0, 1) := by decide +kernel
theorem dX10_weightOf_144 : decode cX10_weightOf 144 = .ok (.getfield 34, 3) := by decide +kernel
theorem dX10_weightOf_147 : decode cX10_weightOf 147 = .ok (.iload_n 2, 1) := by decide +kernel
theorem dX10_weightOf_148 : decode cX10_weightOf 148 = .ok (.iaload, 1) := by decide +kernel
theorem dX10_weightOf_149 : decode cX10_weightOf 149 = .ok (.imul, 1) := by decide +kernel
theorem dX10_weightOf_150 : decode cX10_weightOf 150 = .ok (.ireturn, 1) := by decide +kernel
theorem dX10_weightsOf_0 : decode cX10_weightsOf 0 = .ok (.iconst 0, 1) := by decide +kernel
theorem dX10_weightsOf_1 : decode cX10_weightsOf 1 = .ok (.istore_n 2, 1) := by decide +kernel
theorem dX10_weightsOf_2 : decode cX10_weightsOf 2 = .ok (.iconst 0, 1) := by decide +kernel
theorem dX10_weightsOf_3 : decode cX10_weightsOf 3 = .ok (.istore_n 3, 1) := by decide +kernel
theorem dX10_weightsOf_4 : decode cX10_weightsOf 4 = .ok (.iload_n 3, 1) := by decide +kernel
theorem dX10_weightsOf_5 : decode cX10_weightsOf 5 = .ok (.aload_n 0, 1) := by decide +kernel
theorem dX10_weightsOf_6 : decode cX10_weightsOf 6 = .ok (.getfield 165, 3) := by decide +kernel
theorem dX10_weightsOf_9 : decode cX10_weightsOf 9 = .ok (.if_icmp .ge 18, 3) := by decide +kernel
theorem dX10_weightsOf_12 : decode cX10_weightsOf 12 = .ok (.iload_n 2, 1) := by decide +kernel
theorem dX10_weightsOf_13 : decode cX10_weightsOf 13 = .ok (.aload_n 0, 1) := by decide +kernel
theorem dX10_weightsOf_14 : decode cX10_weightsOf 14 = .ok (.iload_n 1, 1) := by decide +kernel
theorem dX10_weightsOf_15 : decode cX10_weightsOf 15 = .ok (.iload_n 3, 1) := by decide +kernel
theorem dX10_weightsOf_16 : decode cX10_weightsOf 16 = .ok (.invokevirtual 298, 3) := by decide +kernel
theorem dX10_weightsOf_19 : decode cX10_weightsOf 19 = .ok (.iadd, 1) := by decide +kernel
theorem dX10_weightsOf_20 : decode cX10_weightsOf 20 = .ok (.istore_n 2, 1) := by decide +kernel
theorem dX10_weightsOf_21 : decode cX10_weightsOf 21 = .ok (.iinc 3 1, 3) := by decide +kernel
theorem dX10_weightsOf_24 : decode cX10_weightsOf 24 = .ok (.goto (-20), 3) := by decide +kernel
theorem dX10_weightsOf_27 : decode cX10_weightsOf 27 = .ok (.iload_n 2, 1) := by decide +kernel
theorem dX10_weightsOf_28 : decode cX10_weightsOf 28 = .ok (.ireturn, 1) := by decide +kernel
theorem dX10_part_0 : decode cX10_part 0 = .ok (.iload_n 1, 1) := by decide +kernel
theorem dX10_part_1 : decode cX10_part 1 = .ok (.iconst 0, 1) := by decide +kernel
theorem dX10_part_2 : decode cX10_part 2 = .ok (.aload_n 0, 1) := by decide +kernel
theorem dX10_part_3 : decode cX10_part 3 = .ok (.getfield 295, 3) := by decide +kernel
theorem dX10_part_6 : decode cX10_part 6 = .ok (.iconst 1, 1) := by decide +kernel
theorem dX10_part_7 : decode cX10_part 7 = .ok (.isub, 1) := by decide +kernel
theorem dX10_part_8 : decode cX10_part 8 = .ok (.invokestatic 168, 3) := by decide +kernel
theorem dX10_part_11 : decode cX10_part 11 = .ok (.ifCond .eq 11, 3) := by decide +kernel
theorem dX10_part_14 : decode cX10_part 14 = .ok (.aload_n 0, 1) := by decide +kernel
theorem dX10_part_15 : decode cX10_part 15 = .ok (.iload_n 2, 1) := by decide +kernel
theorem dX10_part_16 : decode cX10_part 16 = .ok (.invokevirtual 196, 3) := by decide +kernel
theorem dX10_part_19 : decode cX10_part 19 = .ok (.ifCond .ne 9, 3) := by decide +kernel
theorem dX10_part_22 : decode cX10_part 22 = .ok (.aload_n 0, 1) := by decide +kernel
theorem dX10_part_23 : decode cX10_part 23 = .ok (.iconst (-1), 1) := by decide +kernel
theorem dX10_part_24 : decode cX10_part 24 = .ok (.invokevirtual 175, 3) := by decide +kernel
theorem dX10_part_27 : decode cX10_part 27 = .ok (.ireturn, 1) := by decide +kernel
theorem dX10_part_28 : decode cX10_part 28 = .ok (.iload_n 3, 1) := by decide +kernel
theorem dX10_part_29 : decode cX10_part 29 = .ok (.iconst 0, 1) := by decide +kernel
theorem dX10_part_30 : decode cX10_part 30 = .ok (.iconst 1, 1) := by decide +kernel
theorem dX10_part_31 : decode cX10_part 31 = .ok (.invokestatic 168, 3) := by decide +kernel
theorem dX10_part_34 : decode cX10_part 34 = .ok (.ifCond .ne 10, 3) := by decide +kernel
theorem dX10_part_37 : decode cX10_part 37 = .ok (.aload_n 0, 1) := by decide +kernel
theorem dX10_part_38 : decode cX10_part 38 = .ok (.bipush (-2), 2) := by decide +kernel
theorem dX10_part_40 : decode cX10_part 40 = .ok (.invokevirtual 175, 3) := by decide +kernel
theorem dX10_part_43 : decode cX10_part 43 = .ok (.ireturn, 1) := by decide +kernel
theorem dX10_part_44 : decode cX10_part 44 = .ok (.aload_n 0, 1) := by decide +kernel
theorem dX10_part_45 : decode cX10_part 45 = .ok (.iload_n 1, 1) := by decide +kernel
theorem dX10_part_46 : decode cX10_part 46 = .ok (.iload_n 2, 1) := by decide +kernel
theorem dX10_part_47 : decode cX10_part 47 = .ok (.invokevirtual 298, 3) := by decide +kernel
theorem dX10_part_50 : decode cX10_part 50 = .ok (.istore 4, 2) := by decide +kernel
theorem dX10_part_52 : decode cX10_part 52 = .ok (.iload 4, 2) := by decide +kernel
theorem dX10_part_54 : decode cX10_part 54 = .ok (.ifCond .ne 5, 3) := by decide +kernel
theorem dX10_part_57 : decode cX10_part 57 = .ok (.iload_n 3, 1) := by decide +kernel
theorem dX10_part_58 : decode cX10_part 58 = .ok (.ireturn, 1) := by decide +kernel
theorem dX10_part_59 : decode cX10_part 59 = .ok (.aload_n 0, 1) := by decide +kernel
theorem dX10_part_60 : decode cX10_part 60 = .ok (.iload_n 1, 1) := by decide +kernel
theorem dX10_part_61 : decode cX10_part 61 = .ok (.invokevirtual 301, 3) := by decide +kernel
theorem dX10_part_64 : decode cX10_part 64 = .ok (.istore 5, 2) := by decide +kernel
theorem dX10_part_66 : decode cX10_part 66 = .ok (.iload 4, 2) := by decide +kernel
theorem dX10_part_68 : decode cX10_part 68 = .ok (.i2l, 1) := by decide +kernel
theorem dX10_part_69 : decode cX10_part 69 = .ok (.iload 5, 2) := by decide +kernel
theorem dX10_part_71 : decode cX10_part 71 = .ok (.i2l, 1) := by decide +kernel
theorem dX10_part_72 : decode cX10_part 72 = .ok (.invokestatic 281, 3) := by decide +kernel
theorem dX10_part_75 : decode cX10_part 75 = .ok (.l2i, 1) := by decide +kernel
theorem dX10_part_76 : decode cX10_part 76 = .ok (.istore 6, 2) := by decide +kernel
theorem dX10_part_78 : decode cX10_part 78 = .ok (.iload_n 3, 1) := by decide +kernel
theorem dX10_part_79 : decode cX10_part 79 = .ok (.ifCond .ne 11, 3) := by decide +kernel
theorem dX10_part_82 : decode cX10_part 82 = .ok (.iload 4, 2) := by decide +kernel
theorem dX10_part_84 : decode cX10_part 84 = .ok (.iload 6, 2) := by decide +kernel
theorem dX10_part_86 : decode cX10_part 86 = .ok (.idiv, 1) := by decide +kernel
theorem dX10_part_87 : decode cX10_part 87 = .ok (.goto 8, 3) := by decide +kernel
theorem dX10_part_90 : decode cX10_part 90 = .ok (.iload 5, 2) := by decide +kernel
theorem dX10_part_92 : decode cX10_part 92 = .ok (.iload 6, 2) := by decide +kernel
theorem dX10_part_94 : decode cX10_part 94 = .ok (.idiv, 1) := by decide +kernel
theorem dX10_part_95 : decode cX10_part 95 = .ok (.ireturn, 1) := by decide +kernel
theorem dX10_joinedTo_0 : decode cX10_joinedTo 0 = .ok (.aload_n 0, 1) := by decide +kernel
theorem dX10_joinedTo_1 : decode cX10_joinedTo 1 = .ok (.iload_n 1, 1) := by decide +kernel
theorem dX10_joinedTo_2 : decode cX10_joinedTo 2 = .ok (.invokevirtual 301, 3) := by decide +kernel
theorem dX10_joinedTo_5 : decode cX10_joinedTo 5 = .ok (.istore_n 2, 1) := by decide +kernel
theorem dX10_joinedTo_6 : decode cX10_joinedTo 6 = .ok (.iconst 0, 1) := by decide +kernel
theorem dX10_joinedTo_7 : decode cX10_joinedTo 7 = .ok (.istore_n 3, 1) := by decide +kernel
theorem dX10_joinedTo_8 : decode cX10_joinedTo 8 = .ok (.iload_n 3, 1) := by decide +kernel
theorem dX10_joinedTo_9 : decode cX10_joinedTo 9 = .ok (.aload_n 0, 1) := by decide +kernel
theorem dX10_joinedTo_10 : decode cX10_joinedTo 10 = .ok (.getfield 165, 3) := by decide +kernel
theorem dX10_joinedTo_13 : decode cX10_joinedTo 13 = .ok (.if_icmp .ge 28, 3) := by decide +kernel
theorem dX10_joinedTo_16 : decode cX10_joinedTo 16 = .ok (.ldc2_w 304, 3) := by decide +kernel
theorem dX10_joinedTo_19 : decode cX10_joinedTo 19 = .ok (.aload_n 0, 1) := by decide +kernel
theorem dX10_joinedTo_20 : decode cX10_joinedTo 20 = .ok (.iload_n 1, 1) := by decide +kernel
theorem dX10_joinedTo_21 : decode cX10_joinedTo 21 = .ok (.iload_n 3, 1) := by decide +kernel
theorem dX10_joinedTo_22 : decode cX10_joinedTo 22 = .ok (.invokevirtual 298, 3) := by decide +kernel
theorem dX10_joinedTo_25 : decode cX10_joinedTo 25 = .ok (.i2l, 1) := by decide +kernel
theorem dX10_joinedTo_26 : decode cX10_joinedTo 26 = .ok (.lmul, 1) := by decide +kernel
theorem dX10_joinedTo_27 : decode cX10_joinedTo 27 = .ok (.iload_n 2, 1) := by decide +kernel
theorem dX10_joinedTo_28 : decode cX10_joinedTo 28 = .ok (.i2l, 1) := by decide +kernel
theorem dX10_joinedTo_29 : decode cX10_joinedTo 29 = .ok (.lcmp, 1) := by decide +kernel
theorem dX10_joinedTo_30 : decode cX10_joinedTo 30 = .ok (.ifCond .le 5, 3) := by decide +kernel
theorem dX10_joinedTo_33 : decode cX10_joinedTo 33 = .ok (.iload_n 3, 1) := by decide +kernel
theorem dX10_joinedTo_34 : decode cX10_joinedTo 34 = .ok (.ireturn, 1) := by decide +kernel
theorem dX10_joinedTo_35 : decode cX10_joinedTo 35 = .ok (.iinc 3 1, 3) := by decide +kernel
theorem dX10_joinedTo_38 : decode cX10_joinedTo 38 = .ok (.goto (-30), 3) := by decide +kernel
theorem dX10_joinedTo_41 : decode cX10_joinedTo 41 = .ok (.bipush (-9), 2) := by decide +kernel
theorem dX10_joinedTo_43 : decode cX10_joinedTo 43 = .ok (.ireturn, 1) := by decide +kernel
theorem dX10_joined_0 : decode cX10_joined 0 = .ok (.iload_n 1, 1) := by decide +kernel
theorem dX10_joined_1 : decode cX10_joined 1 = .ok (.iconst 0, 1) := by decide +kernel
theorem dX10_joined_2 : decode cX10_joined 2 = .ok (.aload_n 0, 1) := by decide +kernel
theorem dX10_joined_3 : decode cX10_joined 3 = .ok (.getfield 295, 3) := by decide +kernel
theorem dX10_joined_6 : decode cX10_joined 6 = .ok (.iconst 1, 1) := by decide +kernel
theorem dX10_joined_7 : decode cX10_joined 7 = .ok (.isub, 1) := by decide +kernel
theorem dX10_joined_8 : decode cX10_joined 8 = .ok (.invokestatic 168, 3) := by decide +kernel
theorem dX10_joined_11 : decode cX10_joined 11 = .ok (.ifCond .eq 11, 3) := by decide +kernel
theorem dX10_joined_14 : decode cX10_joined 14 = .ok (.aload_n 0, 1) := by decide +kernel
theorem dX10_joined_15 : decode cX10_joined 15 = .ok (.iload_n 1, 1) := by decide +kernel
theorem dX10_joined_16 : decode cX10_joined 16 = .ok (.invokevirtual 306, 3) := by decide +kernel
theorem dX10_joined_19 : decode cX10_joined 19 = .ok (.goto 8, 3) := by decide +kernel
theorem dX10_joined_22 : decode cX10_joined 22 = .ok (.aload_n 0, 1) := by decide +kernel
theorem dX10_joined_23 : decode cX10_joined 23 = .ok (.iconst (-1), 1) := by decide +kernel
theorem dX10_joined_24 : decode cX10_joined 24 = .ok (.invokevirtual 175, 3) := by decide +kernel
theorem dX10_joined_27 : decode cX10_joined 27 = .ok (.ireturn, 1) := by decide +kernel
theorem dX10_began_0 : decode cX10_began 0 = .ok (.iload_n 1, 1) := by decide +kernel
theorem dX10_began_1 : decode cX10_began 1 = .ok (.iconst 0, 1) := by decide +kernel
theorem dX10_began_2 : decode cX10_began 2 = .ok (.iconst 5, 1) := by decide +kernel
theorem dX10_began_3 : decode cX10_began 3 = .ok (.invokestatic 168, 3) := by decide +kernel
theorem dX10_began_6 : decode cX10_began 6 = .ok (.ifCond .ne 9, 3) := by decide +kernel
theorem dX10_began_9 : decode cX10_began 9 = .ok (.aload_n 0, 1) := by decide +kernel
theorem dX10_began_10 : decode cX10_began 10 = .ok (.iconst (-1), 1) := by decide +kernel
theorem dX10_began_11 : decode cX10_began 11 = .ok (.invokevirtual 175, 3) := by decide +kernel
theorem dX10_began_14 : decode cX10_began 14 = .ok (.ireturn, 1) := by decide +kernel
theorem dX10_began_15 : decode cX10_began 15 = .ok (.iload_n 2, 1) := by decide +kernel
theorem dX10_began_16 : decode cX10_began 16 = .ok (.ifCond .ge 10, 3) := by decide +kernel
theorem dX10_began_19 : decode cX10_began 19 = .ok (.aload_n 0, 1) := by decide +kernel
theorem dX10_began_20 : decode cX10_began 20 = .ok (.bipush (-4), 2) := by decide +kernel
theorem dX10_began_22 : decode cX10_began 22 = .ok (.invokevirtual 175, 3) := by decide +kernel
theorem dX10_began_25 : decode cX10_began 25 = .ok (.ireturn, 1) := by decide +kernel
theorem dX10_began_26 : decode cX10_began 26 = .ok (.iload_n 2, 1) := by decide +kernel
theorem dX10_began_27 : decode cX10_began 27 = .ok (.bipush 12, 2) := by decide +kernel
theorem dX10_began_29 : decode cX10_began 29 = .ok (.if_icmp .le 10, 3) := by decide +kernel
theorem dX10_began_32 : decode cX10_began 32 = .ok (.aload_n 0, 1) := by decide +kernel
theorem dX10_began_33 : decode cX10_began 33 = .ok (.bipush (-6), 2) := by decide +kernel
theorem dX10_began_35 : decode cX10_began 35 = .ok (.invokevirtual 175, 3) := by decide +kernel
theorem dX10_began_38 : decode cX10_began 38 = .ok (.ireturn, 1) := by decide +kernel
theorem dX10_began_39 : decode cX10_began 39 = .ok (.aload_n 0, 1) := by decide +kernel
theorem dX10_began_40 : decode cX10_began 40 = .ok (.getfield 151, 3) := by decide +kernel
theorem dX10_began_43 : decode cX10_began 43 = .ok (.iload_n 1, 1) := by decide +kernel
theorem dX10_began_44 : decode cX10_began 44 = .ok (.iaload, 1) := by decide +kernel
theorem dX10_began_45 : decode cX10_began 45 = .ok (.istore_n 3, 1) := by decide +kernel
theorem dX10_began_46 : decode cX10_began 46 = .ok (.aload_n 0, 1) := by decide +kernel
theorem dX10_began_47 : decode cX10_began 47 = .ok (.getfield 151, 3) := by decide +kernel
theorem dX10_began_50 : decode cX10_began 50 = .ok (.iload_n 1, 1) := by decide +kernel
theorem dX10_began_51 : decode cX10_began 51 = .ok (.iload_n 2, 1) := by decide +kernel
theorem dX10_began_52 : decode cX10_began 52 = .ok (.iastore, 1) := by decide +kernel
theorem dX10_began_53 : decode cX10_began 53 = .ok (.iload_n 3, 1) := by decide +kernel
theorem dX10_began_54 : decode cX10_began 54 = .ok (.ireturn, 1) := by decide +kernel
theorem dX10_cases_0 : decode cX10_cases 0 = .ok (.iload_n 1, 1) := by decide +kernel
theorem dX10_cases_1 : decode cX10_cases 1 = .ok (.iconst 0, 1) := by decide +kernel
theorem dX10_cases_2 : decode cX10_cases 2 = .ok (.iconst 5, 1) := by decide +kernel
theorem dX10_cases_3 : decode cX10_cases 3 = .ok (.invokestatic 168, 3) := by decide +kernel
theorem dX10_cases_6 : decode cX10_cases 6 = .ok (.ifCond .eq 13, 3) := by decide +kernel
theorem dX10_cases_9 : decode cX10_cases 9 = .ok (.iload_n 2, 1) := by decide +kernel
theorem dX10_cases_10 : decode cX10_cases 10 = .ok (.iconst 0, 1) := by decide +kernel
theorem dX10_cases_11 : decode cX10_cases 11 = .ok (.bipush 11, 2) := by decide +kernel
theorem dX10_cases_13 : decode cX10_cases 13 = .ok (.invokestatic 168, 3) := by decide +kernel
theorem dX10_cases_16 : decode cX10_cases 16 = .ok (.ifCond .ne 9, 3) := by decide +kernel
theorem dX10_cases_19 : decode cX10_cases 19 = .ok (.aload_n 0, 1) := by decide +kernel
theorem dX10_cases_20 : decode cX10_cases 20 = .ok (.iconst (-1), 1) := by decide +kernel
theorem dX10_cases_21 : decode cX10_cases 21 = .ok (.invokevirtual 175, 3) := by decide +kernel
theorem dX10_cases_24 : decode cX10_cases 24 = .ok (.ireturn, 1) := by decide +kernel
theorem dX10_cases_25 : decode cX10_cases 25 = .ok (.iload_n 3, 1) := by decide +kernel
theorem dX10_cases_26 : decode cX10_cases 26 = .ok (.ifCond .ge 10, 3) := by decide +kernel
theorem dX10_cases_29 : decode cX10_cases 29 = .ok (.aload_n 0, 1) := by decide +kernel
theorem dX10_cases_30 : decode cX10_cases 30 = .ok (.bipush (-4), 2) := by decide +kernel
theorem dX10_cases_32 : decode cX10_cases 32 = .ok (.invokevirtual 175, 3) := by decide +kernel
theorem dX10_cases_35 : decode cX10_cases 35 = .ok (.ireturn, 1) := by decide +kernel
theorem dX10_cases_36 : decode cX10_cases 36 = .ok (.iload_n 3, 1) := by decide +kernel
theorem dX10_cases_37 : decode cX10_cases 37 = .ok (.sipush 999, 3) := by decide +kernel
theorem dX10_cases_40 : decode cX10_cases 40 = .ok (.if_icmp .le 10, 3) := by decide +kernel
theorem dX10_cases_43 : decode cX10_cases 43 = .ok (.aload_n 0, 1) := by decide +kernel
theorem dX10_cases_44 : decode cX10_cases 44 = .ok (.bipush (-6), 2) := by decide +kernel
theorem dX10_cases_46 : decode cX10_cases 46 = .ok (.invokevirtual 175, 3) := by decide +kernel
theorem dX10_cases_49 : decode cX10_cases 49 = .ok (.ireturn, 1) := by decide +kernel
theorem dX10_cases_50 : decode cX10_cases 50 = .ok (.aload_n 0, 1) := by decide +kernel
theorem dX10_cases_51 : decode cX10_cases 51 = .ok (.getfield 154, 3) := by decide +kernel
theorem dX10_cases_54 : decode cX10_cases 54 = .ok (.bipush 12, 2) := by decide +kernel
theorem dX10_cases_56 : decode cX10_cases 56 = .ok (.iload_n 1, 1) := by decide +kernel
theorem dX10_cases_57 : decode cX10_cases 57 = .ok (.imul, 1) := by decide +kernel
theorem dX10_cases_58 : decode cX10_cases 58 = .ok (.iload_n 2, 1) := by decide +kernel
theorem dX10_cases_59 : decode cX10_cases 59 = .ok (.iadd, 1) := by decide +kernel
theorem dX10_cases_60 : decode cX10_cases 60 = .ok (.iaload, 1) := by decide +kernel
theorem dX10_cases_61 : decode cX10_cases 61 = .ok (.istore 4, 2) := by decide +kernel
theorem dX10_cases_63 : decode cX10_cases 63 = .ok (.aload_n 0, 1) := by decide +kernel
theorem dX10_cases_64 : decode cX10_cases 64 = .ok (.getfield 154, 3) := by decide +kernel
theorem dX10_cases_67 : decode cX10_cases 67 = .ok (.bipush 12, 2) := by decide +kernel
theorem dX10_cases_69 : decode cX10_cases 69 = .ok (.iload_n 1, 1) := by decide +kernel
theorem dX10_cases_70 : decode cX10_cases 70 = .ok (.imul, 1) := by decide +kernel
theorem dX10_cases_71 : decode cX10_cases 71 = .ok (.iload_n 2, 1) := by decide +kernel
theorem dX10_cases_72 : decode cX10_cases 72 = .ok (.iadd, 1) := by decide +kernel
theorem dX10_cases_73 : decode cX10_cases 73 = .ok (.iload_n 3, 1) := by decide +kernel
theorem dX10_cases_74 : decode cX10_cases 74 = .ok (.iastore, 1) := by decide +kernel
theorem dX10_cases_75 : decode cX10_cases 75 = .ok (.iload 4, 2) := by decide +kernel
theorem dX10_cases_77 : decode cX10_cases 77 = .ok (.ireturn, 1) := by decide +kernel
theorem dX10_addEffect_0 : decode cX10_addEffect 0 = .ok (.aload_n 0, 1) := by decide +kernel
theorem dX10_addEffect_1 : decode cX10_addEffect 1 = .ok (.aload_n 0, 1) := by decide +kernel
theorem dX10_addEffect_2 : decode cX10_addEffect 2 = .ok (.getfield 309, 3) := by decide +kernel
theorem dX10_addEffect_5 : decode cX10_addEffect 5 = .ok (.lload_n 3, 1) := by decide +kernel
theorem dX10_addEffect_6 : decode cX10_addEffect 6 = .ok (.lmul, 1) := by decide +kernel
theorem dX10_addEffect_7 : decode cX10_addEffect 7 = .ok (.lload_n 1, 1) := by decide +kernel
theorem dX10_addEffect_8 : decode cX10_addEffect 8 = .ok (.aload_n 0, 1) := by decide +kernel
theorem dX10_addEffect_9 : decode cX10_addEffect 9 = .ok (.getfield 312, 3) := by decide +kernel
theorem dX10_addEffect_12 : decode cX10_addEffect 12 = .ok (.lmul, 1) := by decide +kernel
theorem dX10_addEffect_13 : decode cX10_addEffect 13 = .ok (.ladd, 1) := by decide +kernel
theorem dX10_addEffect_14 : decode cX10_addEffect 14 = .ok (.putfield 309, 3) := by decide +kernel
theorem dX10_addEffect_17 : decode cX10_addEffect 17 = .ok (.aload_n 0, 1) := by decide +kernel
theorem dX10_addEffect_18 : decode cX10_addEffect 18 = .ok (.dup, 1) := by decide +kernel
theorem dX10_addEffect_19 : decode cX10_addEffect 19 = .ok (.getfield 312, 3) := by decide +kernel
theorem dX10_addEffect_22 : decode cX10_addEffect 22 = .ok (.lload_n 3, 1) := by decide +kernel
theorem dX10_addEffect_23 : decode cX10_addEffect 23 = .ok (.lmul, 1) := by decide +kernel
theorem dX10_addEffect_24 : decode cX10_addEffect 24 = .ok (.putfield 312, 3) := by decide +kernel
theorem dX10_addEffect_27 : decode cX10_addEffect 27 = .ok (.aload_n 0, 1) := by decide +kernel
theorem dX10_addEffect_28 : decode cX10_addEffect 28 = .ok (.getfield 309, 3) := by decide +kernel
theorem dX10_addEffect_31 : decode cX10_addEffect 31 = .ok (.aload_n 0, 1) := by decide +kernel
theorem dX10_addEffect_32 : decode cX10_addEffect 32 = .ok (.getfield 312, 3) := by decide +kernel
theorem dX10_addEffect_35 : decode cX10_addEffect 35 = .ok (.invokestatic 281, 3) := by decide +kernel
theorem dX10_addEffect_38 : decode cX10_addEffect 38 = .ok (.lstore 5, 2) := by decide +kernel
theorem dX10_addEffect_40 : decode cX10_addEffect 40 = .ok (.aload_n 0, 1) := by decide +kernel
theorem dX10_addEffect_41 : decode cX10_addEffect 41 = .ok (.dup, 1) := by decide +kernel
theorem dX10_addEffect_42 : decode cX10_addEffect 42 = .ok (.getfield 309, 3) := by decide +kernel
theorem dX10_addEffect_45 : decode cX10_addEffect 45 = .ok (.lload 5, 2) := by decide +kernel
theorem dX10_addEffect_47 : decode cX10_addEffect 47 = .ok (.ldiv, 1) := by decide +kernel
theorem dX10_addEffect_48 : decode cX10_addEffect 48 = .ok (.putfield 309, 3) := by decide +kernel
theorem dX10_addEffect_51 : decode cX10_addEffect 51 = .ok (.aload_n 0, 1) := by decide +kernel
theorem dX10_addEffect_52 : decode cX10_addEffect 52 = .ok (.dup, 1) := by decide +kernel
theorem dX10_addEffect_53 : decode cX10_addEffect 53 = .ok (.getfield 312, 3) := by decide +kernel
theorem dX10_addEffect_56 : decode cX10_addEffect 56 = .ok (.lload 5, 2) := by decide +kernel
theorem dX10_addEffect_58 : decode cX10_addEffect 58 = .ok (.ldiv, 1) := by decide +kernel
theorem dX10_addEffect_59 : decode cX10_addEffect 59 = .ok (.putfield 312, 3) := by decide +kernel
theorem dX10_addEffect_62 : decode cX10_addEffect 62 = .ok (.return_, 1) := by decide +kernel
theorem dX10_casesOf_0 : decode cX10_casesOf 0 = .ok (.lconst 0, 1) := by decide +kernel
theorem dX10_casesOf_1 : decode cX10_casesOf 1 = .ok (.lstore 4, 2) := by decide +kernel
theorem dX10_casesOf_3 : decode cX10_casesOf 3 = .ok (.iload_n 3, 1) := by decide +kernel
theorem dX10_casesOf_4 : decode cX10_casesOf 4 = .ok (.ifCond .eq 7, 3) := by decide +kernel
theorem dX10_casesOf_7 : decode cX10_casesOf 7 = .ok (.iload_n 2, 1) := by decide +kernel
theorem dX10_casesOf_8 : decode cX10_casesOf 8 = .ok (.goto 4, 3) := by decide +kernel
theorem dX10_casesOf_11 : decode cX10_casesOf 11 = .ok (.iconst 0, 1) := by decide +kernel
theorem dX10_casesOf_12 : decode cX10_casesOf 12 = .ok (.istore 6, 2) := by decide +kernel
theorem dX10_casesOf_14 : decode cX10_casesOf 14 = .ok (.iload 6, 2) := by decide +kernel
theorem dX10_casesOf_16 : decode cX10_casesOf 16 = .ok (.iload_n 3, 1) := by decide +kernel
theorem dX10_casesOf_17 : decode cX10_casesOf 17 = .ok (.ifCond .eq 8, 3) := by decide +kernel
theorem dX10_casesOf_20 : decode cX10_casesOf 20 = .ok (.bipush 12, 2) := by decide +kernel
theorem dX10_casesOf_22 : decode cX10_casesOf 22 = .ok (.goto 4, 3) := by decide +kernel
theorem dX10_casesOf_25 : decode cX10_casesOf 25 = .ok (.iload_n 2, 1) := by decide +kernel
theorem dX10_casesOf_26 : decode cX10_casesOf 26 = .ok (.if_icmp .ge 27, 3) := by decide +kernel
theorem dX10_casesOf_29 : decode cX10_casesOf 29 = .ok (.lload 4, 2) := by decide +kernel
theorem dX10_casesOf_31 : decode cX10_casesOf 31 = .ok (.aload_n 0, 1) := by decide +kernel
theorem dX10_casesOf_32 : decode cX10_casesOf 32 = .ok (.getfield 154, 3) := by decide +kernel
theorem dX10_casesOf_35 : decode cX10_casesOf 35 = .ok (.bipush 12, 2) := by decide +kernel
theorem dX10_casesOf_37 : decode cX10_casesOf 37 = .ok (.iload_n 1, 1) := by decide +kernel
theorem dX10_casesOf_38 : decode cX10_casesOf 38 = .ok (.imul, 1) := by decide +kernel
theorem dX10_casesOf_39 : decode cX10_casesOf 39 = .ok (.iload 6, 2) := by decide +kernel
theorem dX10_casesOf_41 : decode cX10_casesOf 41 = .ok (.iadd, 1) := by decide +kernel
theorem dX10_casesOf_42 : decode cX10_casesOf 42 = .ok (.iaload, 1) := by decide +kernel
theorem dX10_casesOf_43 : decode cX10_casesOf 43 = .ok (.i2l, 1) := by decide +kernel
theorem dX10_casesOf_44 : decode cX10_casesOf 44 = .ok (.ladd, 1) := by decide +kernel
theorem dX10_casesOf_45 : decode cX10_casesOf 45 = .ok (.lstore 4, 2) := by decide +kernel
theorem dX10_casesOf_47 : decode cX10_casesOf 47 = .ok (.iinc 6 1, 3) := by decide +kernel
theorem dX10_casesOf_50 : decode cX10_casesOf 50 = .ok (.goto (-36), 3) := by decide +kernel
theorem dX10_casesOf_53 : decode cX10_casesOf 53 = .ok (.lload 4, 2) := by decide +kernel
theorem dX10_casesOf_55 : decode cX10_casesOf 55 = .ok (.lreturn, 1) := by decide +kernel

theorem dX10_findEffect_0 : decode cX10_findEffect 0 = .ok (.iconst 0, 1) := by decide +kernel
theorem dX10_findEffect_1 : decode cX10_findEffect 1 = .ok (.istore_n 1, 1) := by decide +kernel
theorem dX10_findEffect_2 : decode cX10_findEffect 2 = .ok (.iconst 0, 1) := by decide +kernel
theorem dX10_findEffect_3 : decode cX10_findEffect 3 = .ok (.istore_n 2, 1) := by decide +kernel
theorem dX10_findEffect_4 : decode cX10_findEffect 4 = .ok (.iconst 0, 1) := by decide +kernel
theorem dX10_findEffect_5 : decode cX10_findEffect 5 = .ok (.istore_n 3, 1) := by decide +kernel
theorem dX10_findEffect_6 : decode cX10_findEffect 6 = .ok (.iload_n 3, 1) := by decide +kernel
theorem dX10_findEffect_7 : decode cX10_findEffect 7 = .ok (.bipush 6, 2) := by decide +kernel
theorem dX10_findEffect_9 : decode cX10_findEffect 9 = .ok (.if_icmp .ge 51, 3) := by decide +kernel
theorem dX10_findEffect_12 : decode cX10_findEffect 12 = .ok (.iload_n 1, 1) := by decide +kernel
theorem dX10_findEffect_13 : decode cX10_findEffect 13 = .ok (.aload_n 0, 1) := by decide +kernel
theorem dX10_findEffect_14 : decode cX10_findEffect 14 = .ok (.getfield 157, 3) := by decide +kernel
theorem dX10_findEffect_17 : decode cX10_findEffect 17 = .ok (.iload_n 3, 1) := by decide +kernel
theorem dX10_findEffect_18 : decode cX10_findEffect 18 = .ok (.iaload, 1) := by decide +kernel
theorem dX10_findEffect_19 : decode cX10_findEffect 19 = .ok (.bipush 12, 2) := by decide +kernel
theorem dX10_findEffect_21 : decode cX10_findEffect 21 = .ok (.if_icmp .ne 7, 3) := by decide +kernel
theorem dX10_findEffect_24 : decode cX10_findEffect 24 = .ok (.iconst 1, 1) := by decide +kernel
theorem dX10_findEffect_25 : decode cX10_findEffect 25 = .ok (.goto 4, 3) := by decide +kernel
theorem dX10_findEffect_28 : decode cX10_findEffect 28 = .ok (.iconst 0, 1) := by decide +kernel
theorem dX10_findEffect_29 : decode cX10_findEffect 29 = .ok (.iadd, 1) := by decide +kernel
theorem dX10_findEffect_30 : decode cX10_findEffect 30 = .ok (.istore_n 1, 1) := by decide +kernel
theorem dX10_findEffect_31 : decode cX10_findEffect 31 = .ok (.iload_n 2, 1) := by decide +kernel
theorem dX10_findEffect_32 : decode cX10_findEffect 32 = .ok (.aload_n 0, 1) := by decide +kernel
theorem dX10_findEffect_33 : decode cX10_findEffect 33 = .ok (.getfield 157, 3) := by decide +kernel
theorem dX10_findEffect_36 : decode cX10_findEffect 36 = .ok (.iload_n 3, 1) := by decide +kernel
theorem dX10_findEffect_37 : decode cX10_findEffect 37 = .ok (.iaload, 1) := by decide +kernel
theorem dX10_findEffect_38 : decode cX10_findEffect 38 = .ok (.iconst 1, 1) := by decide +kernel
theorem dX10_findEffect_39 : decode cX10_findEffect 39 = .ok (.bipush 11, 2) := by decide +kernel
theorem dX10_findEffect_41 : decode cX10_findEffect 41 = .ok (.invokestatic 168, 3) := by decide +kernel
theorem dX10_findEffect_44 : decode cX10_findEffect 44 = .ok (.ifCond .eq 7, 3) := by decide +kernel
theorem dX10_findEffect_47 : decode cX10_findEffect 47 = .ok (.iconst 1, 1) := by decide +kernel
theorem dX10_findEffect_48 : decode cX10_findEffect 48 = .ok (.goto 4, 3) := by decide +kernel
theorem dX10_findEffect_51 : decode cX10_findEffect 51 = .ok (.iconst 0, 1) := by decide +kernel
theorem dX10_findEffect_52 : decode cX10_findEffect 52 = .ok (.iadd, 1) := by decide +kernel
theorem dX10_findEffect_53 : decode cX10_findEffect 53 = .ok (.istore_n 2, 1) := by decide +kernel
theorem dX10_findEffect_54 : decode cX10_findEffect 54 = .ok (.iinc 3 1, 3) := by decide +kernel
theorem dX10_findEffect_57 : decode cX10_findEffect 57 = .ok (.goto (-51), 3) := by decide +kernel
theorem dX10_findEffect_60 : decode cX10_findEffect 60 = .ok (.aload_n 0, 1) := by decide +kernel
theorem dX10_findEffect_61 : decode cX10_findEffect 61 = .ok (.lconst 0, 1) := by decide +kernel
theorem dX10_findEffect_62 : decode cX10_findEffect 62 = .ok (.putfield 309, 3) := by decide +kernel
theorem dX10_findEffect_65 : decode cX10_findEffect 65 = .ok (.aload_n 0, 1) := by decide +kernel
theorem dX10_findEffect_66 : decode cX10_findEffect 66 = .ok (.lconst 1, 1) := by decide +kernel
theorem dX10_findEffect_67 : decode cX10_findEffect 67 = .ok (.putfield 312, 3) := by decide +kernel
theorem dX10_findEffect_70 : decode cX10_findEffect 70 = .ok (.iconst 0, 1) := by decide +kernel
theorem dX10_findEffect_71 : decode cX10_findEffect 71 = .ok (.istore_n 3, 1) := by decide +kernel
theorem dX10_findEffect_72 : decode cX10_findEffect 72 = .ok (.iload_n 3, 1) := by decide +kernel
theorem dX10_findEffect_73 : decode cX10_findEffect 73 = .ok (.bipush 6, 2) := by decide +kernel
theorem dX10_findEffect_75 : decode cX10_findEffect 75 = .ok (.if_icmp .ge 177, 3) := by decide +kernel
theorem dX10_findEffect_78 : decode cX10_findEffect 78 = .ok (.iload_n 1, 1) := by decide +kernel
theorem dX10_findEffect_79 : decode cX10_findEffect 79 = .ok (.ifCond .le 173, 3) := by decide +kernel
theorem dX10_findEffect_82 : decode cX10_findEffect 82 = .ok (.aload_n 0, 1) := by decide +kernel
theorem dX10_findEffect_83 : decode cX10_findEffect 83 = .ok (.getfield 157, 3) := by decide +kernel
theorem dX10_findEffect_86 : decode cX10_findEffect 86 = .ok (.iload_n 3, 1) := by decide +kernel
theorem dX10_findEffect_87 : decode cX10_findEffect 87 = .ok (.iaload, 1) := by decide +kernel
theorem dX10_findEffect_88 : decode cX10_findEffect 88 = .ok (.istore 4, 2) := by decide +kernel
theorem dX10_findEffect_90 : decode cX10_findEffect 90 = .ok (.iload 4, 2) := by decide +kernel
theorem dX10_findEffect_92 : decode cX10_findEffect 92 = .ok (.iconst 1, 1) := by decide +kernel
theorem dX10_findEffect_93 : decode cX10_findEffect 93 = .ok (.bipush 11, 2) := by decide +kernel
theorem dX10_findEffect_95 : decode cX10_findEffect 95 = .ok (.invokestatic 168, 3) := by decide +kernel
theorem dX10_findEffect_98 : decode cX10_findEffect 98 = .ok (.ifCond .eq 148, 3) := by decide +kernel
theorem dX10_findEffect_101 : decode cX10_findEffect 101 = .ok (.aload_n 0, 1) := by decide +kernel
theorem dX10_findEffect_102 : decode cX10_findEffect 102 = .ok (.aload_n 0, 1) := by decide +kernel
theorem dX10_findEffect_103 : decode cX10_findEffect 103 = .ok (.iload_n 3, 1) := by decide +kernel
theorem dX10_findEffect_104 : decode cX10_findEffect 104 = .ok (.iload 4, 2) := by decide +kernel
theorem dX10_findEffect_106 : decode cX10_findEffect 106 = .ok (.iconst 1, 1) := by decide +kernel
theorem dX10_findEffect_107 : decode cX10_findEffect 107 = .ok (.invokevirtual 315, 3) := by decide +kernel
theorem dX10_findEffect_110 : decode cX10_findEffect 110 = .ok (.bipush 12, 2) := by decide +kernel
theorem dX10_findEffect_112 : decode cX10_findEffect 112 = .ok (.iload 4, 2) := by decide +kernel
theorem dX10_findEffect_114 : decode cX10_findEffect 114 = .ok (.isub, 1) := by decide +kernel
theorem dX10_findEffect_115 : decode cX10_findEffect 115 = .ok (.i2l, 1) := by decide +kernel
theorem dX10_findEffect_116 : decode cX10_findEffect 116 = .ok (.invokevirtual 319, 3) := by decide +kernel
theorem dX10_findEffect_119 : decode cX10_findEffect 119 = .ok (.aload_n 0, 1) := by decide +kernel
theorem dX10_findEffect_120 : decode cX10_findEffect 120 = .ok (.aload_n 0, 1) := by decide +kernel
theorem dX10_findEffect_121 : decode cX10_findEffect 121 = .ok (.iload_n 3, 1) := by decide +kernel
theorem dX10_findEffect_122 : decode cX10_findEffect 122 = .ok (.iload 4, 2) := by decide +kernel
theorem dX10_findEffect_124 : decode cX10_findEffect 124 = .ok (.iconst 0, 1) := by decide +kernel
theorem dX10_findEffect_125 : decode cX10_findEffect 125 = .ok (.invokevirtual 315, 3) := by decide +kernel
theorem dX10_findEffect_128 : decode cX10_findEffect 128 = .ok (.lneg, 1) := by decide +kernel
theorem dX10_findEffect_129 : decode cX10_findEffect 129 = .ok (.iload 4, 2) := by decide +kernel
theorem dX10_findEffect_131 : decode cX10_findEffect 131 = .ok (.i2l, 1) := by decide +kernel
theorem dX10_findEffect_132 : decode cX10_findEffect 132 = .ok (.invokevirtual 319, 3) := by decide +kernel
theorem dX10_findEffect_135 : decode cX10_findEffect 135 = .ok (.lconst 0, 1) := by decide +kernel
theorem dX10_findEffect_136 : decode cX10_findEffect 136 = .ok (.lstore 5, 2) := by decide +kernel
theorem dX10_findEffect_138 : decode cX10_findEffect 138 = .ok (.lconst 0, 1) := by decide +kernel
theorem dX10_findEffect_139 : decode cX10_findEffect 139 = .ok (.lstore 7, 2) := by decide +kernel
theorem dX10_findEffect_141 : decode cX10_findEffect 141 = .ok (.iconst 0, 1) := by decide +kernel
theorem dX10_findEffect_142 : decode cX10_findEffect 142 = .ok (.istore 9, 2) := by decide +kernel
theorem dX10_findEffect_144 : decode cX10_findEffect 144 = .ok (.iload 9, 2) := by decide +kernel
theorem dX10_findEffect_146 : decode cX10_findEffect 146 = .ok (.bipush 6, 2) := by decide +kernel
theorem dX10_findEffect_148 : decode cX10_findEffect 148 = .ok (.if_icmp .ge 69, 3) := by decide +kernel
theorem dX10_findEffect_151 : decode cX10_findEffect 151 = .ok (.lload 5, 2) := by decide +kernel
theorem dX10_findEffect_153 : decode cX10_findEffect 153 = .ok (.aload_n 0, 1) := by decide +kernel
theorem dX10_findEffect_154 : decode cX10_findEffect 154 = .ok (.getfield 157, 3) := by decide +kernel
theorem dX10_findEffect_157 : decode cX10_findEffect 157 = .ok (.iload 9, 2) := by decide +kernel
theorem dX10_findEffect_159 : decode cX10_findEffect 159 = .ok (.iaload, 1) := by decide +kernel
theorem dX10_findEffect_160 : decode cX10_findEffect 160 = .ok (.bipush 12, 2) := by decide +kernel
theorem dX10_findEffect_162 : decode cX10_findEffect 162 = .ok (.if_icmp .ne 15, 3) := by decide +kernel
theorem dX10_findEffect_165 : decode cX10_findEffect 165 = .ok (.aload_n 0, 1) := by decide +kernel
theorem dX10_findEffect_166 : decode cX10_findEffect 166 = .ok (.iload 9, 2) := by decide +kernel
theorem dX10_findEffect_168 : decode cX10_findEffect 168 = .ok (.iload 4, 2) := by decide +kernel
theorem dX10_findEffect_170 : decode cX10_findEffect 170 = .ok (.iconst 1, 1) := by decide +kernel
theorem dX10_findEffect_171 : decode cX10_findEffect 171 = .ok (.invokevirtual 315, 3) := by decide +kernel
theorem dX10_findEffect_174 : decode cX10_findEffect 174 = .ok (.goto 4, 3) := by decide +kernel
theorem dX10_findEffect_177 : decode cX10_findEffect 177 = .ok (.lconst 0, 1) := by decide +kernel
theorem dX10_findEffect_178 : decode cX10_findEffect 178 = .ok (.ladd, 1) := by decide +kernel
theorem dX10_findEffect_179 : decode cX10_findEffect 179 = .ok (.lstore 5, 2) := by decide +kernel
theorem dX10_findEffect_181 : decode cX10_findEffect 181 = .ok (.lload 7, 2) := by decide +kernel
theorem dX10_findEffect_183 : decode cX10_findEffect 183 = .ok (.aload_n 0, 1) := by decide +kernel
theorem dX10_findEffect_184 : decode cX10_findEffect 184 = .ok (.getfield 157, 3) := by decide +kernel
theorem dX10_findEffect_187 : decode cX10_findEffect 187 = .ok (.iload 9, 2) := by decide +kernel
theorem dX10_findEffect_189 : decode cX10_findEffect 189 = .ok (.iaload, 1) := by decide +kernel
theorem dX10_findEffect_190 : decode cX10_findEffect 190 = .ok (.bipush 12, 2) := by decide +kernel
theorem dX10_findEffect_192 : decode cX10_findEffect 192 = .ok (.if_icmp .ne 15, 3) := by decide +kernel
theorem dX10_findEffect_195 : decode cX10_findEffect 195 = .ok (.aload_n 0, 1) := by decide +kernel
theorem dX10_findEffect_196 : decode cX10_findEffect 196 = .ok (.iload 9, 2) := by decide +kernel
theorem dX10_findEffect_198 : decode cX10_findEffect 198 = .ok (.iload 4, 2) := by decide +kernel
theorem dX10_findEffect_200 : decode cX10_findEffect 200 = .ok (.iconst 0, 1) := by decide +kernel
theorem dX10_findEffect_201 : decode cX10_findEffect 201 = .ok (.invokevirtual 315, 3) := by decide +kernel
theorem dX10_findEffect_204 : decode cX10_findEffect 204 = .ok (.goto 4, 3) := by decide +kernel
theorem dX10_findEffect_207 : decode cX10_findEffect 207 = .ok (.lconst 0, 1) := by decide +kernel
theorem dX10_findEffect_208 : decode cX10_findEffect 208 = .ok (.ladd, 1) := by decide +kernel
theorem dX10_findEffect_209 : decode cX10_findEffect 209 = .ok (.lstore 7, 2) := by decide +kernel
theorem dX10_findEffect_211 : decode cX10_findEffect 211 = .ok (.iinc 9 1, 3) := by decide +kernel
theorem dX10_findEffect_214 : decode cX10_findEffect 214 = .ok (.goto (-70), 3) := by decide +kernel
theorem dX10_findEffect_217 : decode cX10_findEffect 217 = .ok (.aload_n 0, 1) := by decide +kernel
theorem dX10_findEffect_218 : decode cX10_findEffect 218 = .ok (.lload 5, 2) := by decide +kernel
theorem dX10_findEffect_220 : decode cX10_findEffect 220 = .ok (.lneg, 1) := by decide +kernel
theorem dX10_findEffect_221 : decode cX10_findEffect 221 = .ok (.iload_n 1, 1) := by decide +kernel
theorem dX10_findEffect_222 : decode cX10_findEffect 222 = .ok (.i2l, 1) := by decide +kernel
theorem dX10_findEffect_223 : decode cX10_findEffect 223 = .ok (.ldc2_w 323, 3) := by decide +kernel
theorem dX10_findEffect_226 : decode cX10_findEffect 226 = .ok (.iload 4, 2) := by decide +kernel
theorem dX10_findEffect_228 : decode cX10_findEffect 228 = .ok (.i2l, 1) := by decide +kernel
theorem dX10_findEffect_229 : decode cX10_findEffect 229 = .ok (.lsub, 1) := by decide +kernel
theorem dX10_findEffect_230 : decode cX10_findEffect 230 = .ok (.lmul, 1) := by decide +kernel
theorem dX10_findEffect_231 : decode cX10_findEffect 231 = .ok (.invokevirtual 319, 3) := by decide +kernel
theorem dX10_findEffect_234 : decode cX10_findEffect 234 = .ok (.aload_n 0, 1) := by decide +kernel
theorem dX10_findEffect_235 : decode cX10_findEffect 235 = .ok (.lload 7, 2) := by decide +kernel
theorem dX10_findEffect_237 : decode cX10_findEffect 237 = .ok (.iload_n 1, 1) := by decide +kernel
theorem dX10_findEffect_238 : decode cX10_findEffect 238 = .ok (.i2l, 1) := by decide +kernel
theorem dX10_findEffect_239 : decode cX10_findEffect 239 = .ok (.iload 4, 2) := by decide +kernel
theorem dX10_findEffect_241 : decode cX10_findEffect 241 = .ok (.i2l, 1) := by decide +kernel
theorem dX10_findEffect_242 : decode cX10_findEffect 242 = .ok (.lmul, 1) := by decide +kernel
theorem dX10_findEffect_243 : decode cX10_findEffect 243 = .ok (.invokevirtual 319, 3) := by decide +kernel
theorem dX10_findEffect_246 : decode cX10_findEffect 246 = .ok (.iinc 3 1, 3) := by decide +kernel
theorem dX10_findEffect_249 : decode cX10_findEffect 249 = .ok (.goto (-177), 3) := by decide +kernel
theorem dX10_findEffect_252 : decode cX10_findEffect 252 = .ok (.aload_n 0, 1) := by decide +kernel
theorem dX10_findEffect_253 : decode cX10_findEffect 253 = .ok (.dup, 1) := by decide +kernel
theorem dX10_findEffect_254 : decode cX10_findEffect 254 = .ok (.getfield 312, 3) := by decide +kernel
theorem dX10_findEffect_257 : decode cX10_findEffect 257 = .ok (.iload_n 2, 1) := by decide +kernel
theorem dX10_findEffect_258 : decode cX10_findEffect 258 = .ok (.ifCond .le 8, 3) := by decide +kernel
theorem dX10_findEffect_261 : decode cX10_findEffect 261 = .ok (.iload_n 2, 1) := by decide +kernel
theorem dX10_findEffect_262 : decode cX10_findEffect 262 = .ok (.i2l, 1) := by decide +kernel
theorem dX10_findEffect_263 : decode cX10_findEffect 263 = .ok (.goto 4, 3) := by decide +kernel
theorem dX10_findEffect_266 : decode cX10_findEffect 266 = .ok (.lconst 1, 1) := by decide +kernel
theorem dX10_findEffect_267 : decode cX10_findEffect 267 = .ok (.lmul, 1) := by decide +kernel
theorem dX10_findEffect_268 : decode cX10_findEffect 268 = .ok (.putfield 312, 3) := by decide +kernel
theorem dX10_findEffect_271 : decode cX10_findEffect 271 = .ok (.aload_n 0, 1) := by decide +kernel
theorem dX10_findEffect_272 : decode cX10_findEffect 272 = .ok (.getfield 309, 3) := by decide +kernel
theorem dX10_findEffect_275 : decode cX10_findEffect 275 = .ok (.aload_n 0, 1) := by decide +kernel
theorem dX10_findEffect_276 : decode cX10_findEffect 276 = .ok (.getfield 312, 3) := by decide +kernel
theorem dX10_findEffect_279 : decode cX10_findEffect 279 = .ok (.invokestatic 281, 3) := by decide +kernel
theorem dX10_findEffect_282 : decode cX10_findEffect 282 = .ok (.lstore_n 3, 1) := by decide +kernel
theorem dX10_findEffect_283 : decode cX10_findEffect 283 = .ok (.aload_n 0, 1) := by decide +kernel
theorem dX10_findEffect_284 : decode cX10_findEffect 284 = .ok (.dup, 1) := by decide +kernel
theorem dX10_findEffect_285 : decode cX10_findEffect 285 = .ok (.getfield 309, 3) := by decide +kernel
theorem dX10_findEffect_288 : decode cX10_findEffect 288 = .ok (.lload_n 3, 1) := by decide +kernel
theorem dX10_findEffect_289 : decode cX10_findEffect 289 = .ok (.ldiv, 1) := by decide +kernel
theorem dX10_findEffect_290 : decode cX10_findEffect 290 = .ok (.putfield 309, 3) := by decide +kernel
theorem dX10_findEffect_293 : decode cX10_findEffect 293 = .ok (.aload_n 0, 1) := by decide +kernel
theorem dX10_findEffect_294 : decode cX10_findEffect 294 = .ok (.dup, 1) := by decide +kernel
theorem dX10_findEffect_295 : decode cX10_findEffect 295 = .ok (.getfield 312, 3) := by decide +kernel
theorem dX10_findEffect_298 : decode cX10_findEffect 298 = .ok (.lload_n 3, 1) := by decide +kernel
theorem dX10_findEffect_299 : decode cX10_findEffect 299 = .ok (.ldiv, 1) := by decide +kernel
theorem dX10_findEffect_300 : decode cX10_findEffect 300 = .ok (.putfield 312, 3) := by decide +kernel
theorem dX10_findEffect_303 : decode cX10_findEffect 303 = .ok (.iload_n 1, 1) := by decide +kernel
theorem dX10_findEffect_304 : decode cX10_findEffect 304 = .ok (.ifCond .le 11, 3) := by decide +kernel
theorem dX10_findEffect_307 : decode cX10_findEffect 307 = .ok (.iload_n 2, 1) := by decide +kernel
theorem dX10_findEffect_308 : decode cX10_findEffect 308 = .ok (.ifCond .le 7, 3) := by decide +kernel
theorem dX10_findEffect_311 : decode cX10_findEffect 311 = .ok (.iconst 1, 1) := by decide +kernel
theorem dX10_findEffect_312 : decode cX10_findEffect 312 = .ok (.goto 4, 3) := by decide +kernel
theorem dX10_findEffect_315 : decode cX10_findEffect 315 = .ok (.iconst 0, 1) := by decide +kernel
theorem dX10_findEffect_316 : decode cX10_findEffect 316 = .ok (.ireturn, 1) := by decide +kernel
theorem dX10_findTrue_0 : decode cX10_findTrue 0 = .ok (.iconst 0, 1) := by decide +kernel
theorem dX10_findTrue_1 : decode cX10_findTrue 1 = .ok (.istore_n 1, 1) := by decide +kernel
theorem dX10_findTrue_2 : decode cX10_findTrue 2 = .ok (.iload_n 1, 1) := by decide +kernel
theorem dX10_findTrue_3 : decode cX10_findTrue 3 = .ok (.bipush 6, 2) := by decide +kernel
theorem dX10_findTrue_5 : decode cX10_findTrue 5 = .ok (.if_icmp .ge 21, 3) := by decide +kernel
theorem dX10_findTrue_8 : decode cX10_findTrue 8 = .ok (.aload_n 0, 1) := by decide +kernel
theorem dX10_findTrue_9 : decode cX10_findTrue 9 = .ok (.getfield 157, 3) := by decide +kernel
theorem dX10_findTrue_12 : decode cX10_findTrue 12 = .ok (.iload_n 1, 1) := by decide +kernel
theorem dX10_findTrue_13 : decode cX10_findTrue 13 = .ok (.aload_n 0, 1) := by decide +kernel
theorem dX10_findTrue_14 : decode cX10_findTrue 14 = .ok (.getfield 151, 3) := by decide +kernel
theorem dX10_findTrue_17 : decode cX10_findTrue 17 = .ok (.iload_n 1, 1) := by decide +kernel
theorem dX10_findTrue_18 : decode cX10_findTrue 18 = .ok (.iaload, 1) := by decide +kernel
theorem dX10_findTrue_19 : decode cX10_findTrue 19 = .ok (.iastore, 1) := by decide +kernel
theorem dX10_findTrue_20 : decode cX10_findTrue 20 = .ok (.iinc 1 1, 3) := by decide +kernel
theorem dX10_findTrue_23 : decode cX10_findTrue 23 = .ok (.goto (-21), 3) := by decide +kernel
theorem dX10_findTrue_26 : decode cX10_findTrue 26 = .ok (.aload_n 0, 1) := by decide +kernel
theorem dX10_findTrue_27 : decode cX10_findTrue 27 = .ok (.invokevirtual 325, 3) := by decide +kernel
theorem dX10_findTrue_30 : decode cX10_findTrue 30 = .ok (.ireturn, 1) := by decide +kernel
theorem dX10_effect_0 : decode cX10_effect 0 = .ok (.iload_n 1, 1) := by decide +kernel
theorem dX10_effect_1 : decode cX10_effect 1 = .ok (.iconst 0, 1) := by decide +kernel
theorem dX10_effect_2 : decode cX10_effect 2 = .ok (.iconst 1, 1) := by decide +kernel
theorem dX10_effect_3 : decode cX10_effect 3 = .ok (.invokestatic 168, 3) := by decide +kernel
theorem dX10_effect_6 : decode cX10_effect 6 = .ok (.ifCond .ne 10, 3) := by decide +kernel
theorem dX10_effect_9 : decode cX10_effect 9 = .ok (.aload_n 0, 1) := by decide +kernel
theorem dX10_effect_10 : decode cX10_effect 10 = .ok (.bipush (-2), 2) := by decide +kernel
theorem dX10_effect_12 : decode cX10_effect 12 = .ok (.invokevirtual 285, 3) := by decide +kernel
theorem dX10_effect_15 : decode cX10_effect 15 = .ok (.lreturn, 1) := by decide +kernel
theorem dX10_effect_16 : decode cX10_effect 16 = .ok (.aload_n 0, 1) := by decide +kernel
theorem dX10_effect_17 : decode cX10_effect 17 = .ok (.invokevirtual 329, 3) := by decide +kernel
theorem dX10_effect_20 : decode cX10_effect 20 = .ok (.ifCond .ne 10, 3) := by decide +kernel
theorem dX10_effect_23 : decode cX10_effect 23 = .ok (.aload_n 0, 1) := by decide +kernel
theorem dX10_effect_24 : decode cX10_effect 24 = .ok (.bipush (-3), 2) := by decide +kernel
theorem dX10_effect_26 : decode cX10_effect 26 = .ok (.invokevirtual 285, 3) := by decide +kernel
theorem dX10_effect_29 : decode cX10_effect 29 = .ok (.lreturn, 1) := by decide +kernel
theorem dX10_effect_30 : decode cX10_effect 30 = .ok (.iload_n 1, 1) := by decide +kernel
theorem dX10_effect_31 : decode cX10_effect 31 = .ok (.ifCond .ne 10, 3) := by decide +kernel
theorem dX10_effect_34 : decode cX10_effect 34 = .ok (.aload_n 0, 1) := by decide +kernel
theorem dX10_effect_35 : decode cX10_effect 35 = .ok (.getfield 309, 3) := by decide +kernel
theorem dX10_effect_38 : decode cX10_effect 38 = .ok (.goto 7, 3) := by decide +kernel
theorem dX10_effect_41 : decode cX10_effect 41 = .ok (.aload_n 0, 1) := by decide +kernel
theorem dX10_effect_42 : decode cX10_effect 42 = .ok (.getfield 312, 3) := by decide +kernel
theorem dX10_effect_45 : decode cX10_effect 45 = .ok (.lreturn, 1) := by decide +kernel
theorem dX10_findChance_0 : decode cX10_findChance 0 = .ok (.aload_n 0, 1) := by decide +kernel
theorem dX10_findChance_1 : decode cX10_findChance 1 = .ok (.invokevirtual 329, 3) := by decide +kernel
theorem dX10_findChance_4 : decode cX10_findChance 4 = .ok (.ifCond .ne 6, 3) := by decide +kernel
theorem dX10_findChance_7 : decode cX10_findChance 7 = .ok (.bipush (-9), 2) := by decide +kernel
theorem dX10_findChance_9 : decode cX10_findChance 9 = .ok (.ireturn, 1) := by decide +kernel
theorem dX10_findChance_10 : decode cX10_findChance 10 = .ok (.aload_n 0, 1) := by decide +kernel
theorem dX10_findChance_11 : decode cX10_findChance 11 = .ok (.getfield 309, 3) := by decide +kernel
theorem dX10_findChance_14 : decode cX10_findChance 14 = .ok (.lstore_n 1, 1) := by decide +kernel
theorem dX10_findChance_15 : decode cX10_findChance 15 = .ok (.aload_n 0, 1) := by decide +kernel
theorem dX10_findChance_16 : decode cX10_findChance 16 = .ok (.getfield 312, 3) := by decide +kernel
theorem dX10_findChance_19 : decode cX10_findChance 19 = .ok (.lstore_n 3, 1) := by decide +kernel
theorem dX10_findChance_20 : decode cX10_findChance 20 = .ok (.iconst 0, 1) := by decide +kernel
theorem dX10_findChance_21 : decode cX10_findChance 21 = .ok (.istore 5, 2) := by decide +kernel
theorem dX10_findChance_23 : decode cX10_findChance 23 = .ok (.iconst 0, 1) := by decide +kernel
theorem dX10_findChance_24 : decode cX10_findChance 24 = .ok (.istore 6, 2) := by decide +kernel
theorem dX10_findChance_26 : decode cX10_findChance 26 = .ok (.iload 6, 2) := by decide +kernel
theorem dX10_findChance_28 : decode cX10_findChance 28 = .ok (.sipush 720, 3) := by decide +kernel
theorem dX10_findChance_31 : decode cX10_findChance 31 = .ok (.if_icmp .ge 160, 3) := by decide +kernel
theorem dX10_findChance_34 : decode cX10_findChance 34 = .ok (.iload 6, 2) := by decide +kernel
theorem dX10_findChance_36 : decode cX10_findChance 36 = .ok (.istore 7, 2) := by decide +kernel
theorem dX10_findChance_38 : decode cX10_findChance 38 = .ok (.iconst 0, 1) := by decide +kernel
theorem dX10_findChance_39 : decode cX10_findChance 39 = .ok (.istore 8, 2) := by decide +kernel
theorem dX10_findChance_41 : decode cX10_findChance 41 = .ok (.iload 8, 2) := by decide +kernel
theorem dX10_findChance_43 : decode cX10_findChance 43 = .ok (.bipush 6, 2) := by decide +kernel
theorem dX10_findChance_45 : decode cX10_findChance 45 = .ok (.if_icmp .ge 18, 3) := by decide +kernel
theorem dX10_findChance_48 : decode cX10_findChance 48 = .ok (.aload_n 0, 1) := by decide +kernel
theorem dX10_findChance_49 : decode cX10_findChance 49 = .ok (.getfield 160, 3) := by decide +kernel
theorem dX10_findChance_52 : decode cX10_findChance 52 = .ok (.iload 8, 2) := by decide +kernel
theorem dX10_findChance_54 : decode cX10_findChance 54 = .ok (.iload 8, 2) := by decide +kernel
theorem dX10_findChance_56 : decode cX10_findChance 56 = .ok (.iastore, 1) := by decide +kernel
theorem dX10_findChance_57 : decode cX10_findChance 57 = .ok (.iinc 8 1, 3) := by decide +kernel
theorem dX10_findChance_60 : decode cX10_findChance 60 = .ok (.goto (-19), 3) := by decide +kernel
theorem dX10_findChance_63 : decode cX10_findChance 63 = .ok (.iconst 0, 1) := by decide +kernel
theorem dX10_findChance_64 : decode cX10_findChance 64 = .ok (.istore 8, 2) := by decide +kernel
theorem dX10_findChance_66 : decode cX10_findChance 66 = .ok (.iload 8, 2) := by decide +kernel
theorem dX10_findChance_68 : decode cX10_findChance 68 = .ok (.bipush 6, 2) := by decide +kernel
theorem dX10_findChance_70 : decode cX10_findChance 70 = .ok (.if_icmp .ge 83, 3) := by decide +kernel
theorem dX10_findChance_73 : decode cX10_findChance 73 = .ok (.iload 8, 2) := by decide +kernel
theorem dX10_findChance_75 : decode cX10_findChance 75 = .ok (.iload 7, 2) := by decide +kernel
theorem dX10_findChance_77 : decode cX10_findChance 77 = .ok (.bipush 6, 2) := by decide +kernel
theorem dX10_findChance_79 : decode cX10_findChance 79 = .ok (.iload 8, 2) := by decide +kernel
theorem dX10_findChance_81 : decode cX10_findChance 81 = .ok (.isub, 1) := by decide +kernel
theorem dX10_findChance_82 : decode cX10_findChance 82 = .ok (.irem, 1) := by decide +kernel
theorem dX10_findChance_83 : decode cX10_findChance 83 = .ok (.iadd, 1) := by decide +kernel
theorem dX10_findChance_84 : decode cX10_findChance 84 = .ok (.istore 9, 2) := by decide +kernel
theorem dX10_findChance_86 : decode cX10_findChance 86 = .ok (.iload 7, 2) := by decide +kernel
theorem dX10_findChance_88 : decode cX10_findChance 88 = .ok (.bipush 6, 2) := by decide +kernel
theorem dX10_findChance_90 : decode cX10_findChance 90 = .ok (.iload 8, 2) := by decide +kernel
theorem dX10_findChance_92 : decode cX10_findChance 92 = .ok (.isub, 1) := by decide +kernel
theorem dX10_findChance_93 : decode cX10_findChance 93 = .ok (.idiv, 1) := by decide +kernel
theorem dX10_findChance_94 : decode cX10_findChance 94 = .ok (.istore 7, 2) := by decide +kernel
theorem dX10_findChance_96 : decode cX10_findChance 96 = .ok (.aload_n 0, 1) := by decide +kernel
theorem dX10_findChance_97 : decode cX10_findChance 97 = .ok (.getfield 160, 3) := by decide +kernel
theorem dX10_findChance_100 : decode cX10_findChance 100 = .ok (.iload 8, 2) := by decide +kernel
theorem dX10_findChance_102 : decode cX10_findChance 102 = .ok (.iaload, 1) := by decide +kernel
theorem dX10_findChance_103 : decode cX10_findChance 103 = .ok (.istore 10, 2) := by decide +kernel
theorem dX10_findChance_105 : decode cX10_findChance 105 = .ok (.aload_n 0, 1) := by decide +kernel
theorem dX10_findChance_106 : decode cX10_findChance 106 = .ok (.getfield 160, 3) := by decide +kernel
theorem dX10_findChance_109 : decode cX10_findChance 109 = .ok (.iload 8, 2) := by decide +kernel
theorem dX10_findChance_111 : decode cX10_findChance 111 = .ok (.aload_n 0, 1) := by decide +kernel
theorem dX10_findChance_112 : decode cX10_findChance 112 = .ok (.getfield 160, 3) := by decide +kernel
theorem dX10_findChance_115 : decode cX10_findChance 115 = .ok (.iload 9, 2) := by decide +kernel
theorem dX10_findChance_117 : decode cX10_findChance 117 = .ok (.iaload, 1) := by decide +kernel
theorem dX10_findChance_118 : decode cX10_findChance 118 = .ok (.iastore, 1) := by decide +kernel
theorem dX10_findChance_119 : decode cX10_findChance 119 = .ok (.aload_n 0, 1) := by decide +kernel
theorem dX10_findChance_120 : decode cX10_findChance 120 = .ok (.getfield 160, 3) := by decide +kernel
theorem dX10_findChance_123 : decode cX10_findChance 123 = .ok (.iload 9, 2) := by decide +kernel
theorem dX10_findChance_125 : decode cX10_findChance 125 = .ok (.iload 10, 2) := by decide +kernel
theorem dX10_findChance_127 : decode cX10_findChance 127 = .ok (.iastore, 1) := by decide +kernel
theorem dX10_findChance_128 : decode cX10_findChance 128 = .ok (.aload_n 0, 1) := by decide +kernel
theorem dX10_findChance_129 : decode cX10_findChance 129 = .ok (.getfield 157, 3) := by decide +kernel
theorem dX10_findChance_132 : decode cX10_findChance 132 = .ok (.iload 8, 2) := by decide +kernel
theorem dX10_findChance_134 : decode cX10_findChance 134 = .ok (.aload_n 0, 1) := by decide +kernel
theorem dX10_findChance_135 : decode cX10_findChance 135 = .ok (.getfield 151, 3) := by decide +kernel
theorem dX10_findChance_138 : decode cX10_findChance 138 = .ok (.aload_n 0, 1) := by decide +kernel
theorem dX10_findChance_139 : decode cX10_findChance 139 = .ok (.getfield 160, 3) := by decide +kernel
theorem dX10_findChance_142 : decode cX10_findChance 142 = .ok (.iload 8, 2) := by decide +kernel
theorem dX10_findChance_144 : decode cX10_findChance 144 = .ok (.iaload, 1) := by decide +kernel
theorem dX10_findChance_145 : decode cX10_findChance 145 = .ok (.iaload, 1) := by decide +kernel
theorem dX10_findChance_146 : decode cX10_findChance 146 = .ok (.iastore, 1) := by decide +kernel
theorem dX10_findChance_147 : decode cX10_findChance 147 = .ok (.iinc 8 1, 3) := by decide +kernel
theorem dX10_findChance_150 : decode cX10_findChance 150 = .ok (.goto (-84), 3) := by decide +kernel
theorem dX10_findChance_153 : decode cX10_findChance 153 = .ok (.aload_n 0, 1) := by decide +kernel
theorem dX10_findChance_154 : decode cX10_findChance 154 = .ok (.invokevirtual 325, 3) := by decide +kernel
theorem dX10_findChance_157 : decode cX10_findChance 157 = .ok (.istore 8, 2) := by decide +kernel
theorem dX10_findChance_159 : decode cX10_findChance 159 = .ok (.iload 5, 2) := by decide +kernel
theorem dX10_findChance_161 : decode cX10_findChance 161 = .ok (.aload_n 0, 1) := by decide +kernel
theorem dX10_findChance_162 : decode cX10_findChance 162 = .ok (.getfield 309, 3) := by decide +kernel
theorem dX10_findChance_165 : decode cX10_findChance 165 = .ok (.lload_n 3, 1) := by decide +kernel
theorem dX10_findChance_166 : decode cX10_findChance 166 = .ok (.lmul, 1) := by decide +kernel
theorem dX10_findChance_167 : decode cX10_findChance 167 = .ok (.lload_n 1, 1) := by decide +kernel
theorem dX10_findChance_168 : decode cX10_findChance 168 = .ok (.aload_n 0, 1) := by decide +kernel
theorem dX10_findChance_169 : decode cX10_findChance 169 = .ok (.getfield 312, 3) := by decide +kernel
theorem dX10_findChance_172 : decode cX10_findChance 172 = .ok (.lmul, 1) := by decide +kernel
theorem dX10_findChance_173 : decode cX10_findChance 173 = .ok (.lcmp, 1) := by decide +kernel
theorem dX10_findChance_174 : decode cX10_findChance 174 = .ok (.ifCond .gt 7, 3) := by decide +kernel
theorem dX10_findChance_177 : decode cX10_findChance 177 = .ok (.iconst 1, 1) := by decide +kernel
theorem dX10_findChance_178 : decode cX10_findChance 178 = .ok (.goto 4, 3) := by decide +kernel
theorem dX10_findChance_181 : decode cX10_findChance 181 = .ok (.iconst 0, 1) := by decide +kernel
theorem dX10_findChance_182 : decode cX10_findChance 182 = .ok (.iadd, 1) := by decide +kernel
theorem dX10_findChance_183 : decode cX10_findChance 183 = .ok (.istore 5, 2) := by decide +kernel
theorem dX10_findChance_185 : decode cX10_findChance 185 = .ok (.iinc 6 1, 3) := by decide +kernel
theorem dX10_findChance_188 : decode cX10_findChance 188 = .ok (.goto (-162), 3) := by decide +kernel
theorem dX10_findChance_191 : decode cX10_findChance 191 = .ok (.iload 5, 2) := by decide +kernel
theorem dX10_findChance_193 : decode cX10_findChance 193 = .ok (.ireturn, 1) := by decide +kernel
theorem dX10_chance_0 : decode cX10_chance 0 = .ok (.aload_n 0, 1) := by decide +kernel
theorem dX10_chance_1 : decode cX10_chance 1 = .ok (.invokevirtual 332, 3) := by decide +kernel
theorem dX10_chance_4 : decode cX10_chance 4 = .ok (.ireturn, 1) := by decide +kernel
theorem dX10_helped_0 : decode cX10_helped 0 = .ok (.aload_n 0, 1) := by decide +kernel
theorem dX10_helped_1 : decode cX10_helped 1 = .ok (.invokevirtual 332, 3) := by decide +kernel
theorem dX10_helped_4 : decode cX10_helped 4 = .ok (.istore_n 1, 1) := by decide +kernel
theorem dX10_helped_5 : decode cX10_helped 5 = .ok (.aload_n 0, 1) := by decide +kernel
theorem dX10_helped_6 : decode cX10_helped 6 = .ok (.invokevirtual 329, 3) := by decide +kernel
theorem dX10_helped_9 : decode cX10_helped 9 = .ok (.istore_n 2, 1) := by decide +kernel
theorem dX10_helped_10 : decode cX10_helped 10 = .ok (.iload_n 1, 1) := by decide +kernel
theorem dX10_helped_11 : decode cX10_helped 11 = .ok (.bipush (-9), 2) := by decide +kernel
theorem dX10_helped_13 : decode cX10_helped 13 = .ok (.if_icmp .eq 22, 3) := by decide +kernel
theorem dX10_helped_16 : decode cX10_helped 16 = .ok (.iload_n 1, 1) := by decide +kernel
theorem dX10_helped_17 : decode cX10_helped 17 = .ok (.bipush 36, 2) := by decide +kernel
theorem dX10_helped_19 : decode cX10_helped 19 = .ok (.if_icmp .gt 16, 3) := by decide +kernel
theorem dX10_helped_22 : decode cX10_helped 22 = .ok (.aload_n 0, 1) := by decide +kernel
theorem dX10_helped_23 : decode cX10_helped 23 = .ok (.getfield 309, 3) := by decide +kernel
theorem dX10_helped_26 : decode cX10_helped 26 = .ok (.lconst 0, 1) := by decide +kernel
theorem dX10_helped_27 : decode cX10_helped 27 = .ok (.lcmp, 1) := by decide +kernel
theorem dX10_helped_28 : decode cX10_helped 28 = .ok (.ifCond .ge 7, 3) := by decide +kernel
theorem dX10_helped_31 : decode cX10_helped 31 = .ok (.iconst 1, 1) := by decide +kernel
theorem dX10_helped_32 : decode cX10_helped 32 = .ok (.goto 4, 3) := by decide +kernel
theorem dX10_helped_35 : decode cX10_helped 35 = .ok (.iconst 0, 1) := by decide +kernel
theorem dX10_helped_36 : decode cX10_helped 36 = .ok (.ireturn, 1) := by decide +kernel
theorem dX10_count_0 : decode cX10_count 0 = .ok (.iconst 0, 1) := by decide +kernel
theorem dX10_count_1 : decode cX10_count 1 = .ok (.istore_n 2, 1) := by decide +kernel
theorem dX10_count_2 : decode cX10_count 2 = .ok (.iload_n 1, 1) := by decide +kernel
theorem dX10_count_3 : decode cX10_count 3 = .ok (.tableswitch 144 0 7 #[45, 50, 55, 60, 65, 100, 105, 110], 45) := by decide +kernel
theorem dX10_count_48 : decode cX10_count 48 = .ok (.aload_n 0, 1) := by decide +kernel
theorem dX10_count_49 : decode cX10_count 49 = .ok (.getfield 179, 3) := by decide +kernel
theorem dX10_count_52 : decode cX10_count 52 = .ok (.ireturn, 1) := by decide +kernel
theorem dX10_count_53 : decode cX10_count 53 = .ok (.aload_n 0, 1) := by decide +kernel
theorem dX10_count_54 : decode cX10_count 54 = .ok (.getfield 182, 3) := by decide +kernel
theorem dX10_count_57 : decode cX10_count 57 = .ok (.ireturn, 1) := by decide +kernel
theorem dX10_count_58 : decode cX10_count 58 = .ok (.aload_n 0, 1) := by decide +kernel
theorem dX10_count_59 : decode cX10_count 59 = .ok (.getfield 165, 3) := by decide +kernel
theorem dX10_count_62 : decode cX10_count 62 = .ok (.ireturn, 1) := by decide +kernel
theorem dX10_count_63 : decode cX10_count 63 = .ok (.aload_n 0, 1) := by decide +kernel
theorem dX10_count_64 : decode cX10_count 64 = .ok (.getfield 172, 3) := by decide +kernel
theorem dX10_count_67 : decode cX10_count 67 = .ok (.ireturn, 1) := by decide +kernel
theorem dX10_count_68 : decode cX10_count 68 = .ok (.iconst 0, 1) := by decide +kernel
theorem dX10_count_69 : decode cX10_count 69 = .ok (.istore_n 3, 1) := by decide +kernel
theorem dX10_count_70 : decode cX10_count 70 = .ok (.iload_n 3, 1) := by decide +kernel
theorem dX10_count_71 : decode cX10_count 71 = .ok (.aload_n 0, 1) := by decide +kernel
theorem dX10_count_72 : decode cX10_count 72 = .ok (.getfield 172, 3) := by decide +kernel
theorem dX10_count_75 : decode cX10_count 75 = .ok (.if_icmp .ge 26, 3) := by decide +kernel
theorem dX10_count_78 : decode cX10_count 78 = .ok (.iload_n 2, 1) := by decide +kernel
theorem dX10_count_79 : decode cX10_count 79 = .ok (.aload_n 0, 1) := by decide +kernel
theorem dX10_count_80 : decode cX10_count 80 = .ok (.getfield 65, 3) := by decide +kernel
theorem dX10_count_83 : decode cX10_count 83 = .ok (.iload_n 3, 1) := by decide +kernel
theorem dX10_count_84 : decode cX10_count 84 = .ok (.iaload, 1) := by decide +kernel
theorem dX10_count_85 : decode cX10_count 85 = .ok (.ifCond .lt 7, 3) := by decide +kernel
theorem dX10_count_88 : decode cX10_count 88 = .ok (.iconst 1, 1) := by decide +kernel
theorem dX10_count_89 : decode cX10_count 89 = .ok (.goto 4, 3) := by decide +kernel
theorem dX10_count_92 : decode cX10_count 92 = .ok (.iconst 0, 1) := by decide +kernel
theorem dX10_count_93 : decode cX10_count 93 = .ok (.iadd, 1) := by decide +kernel
theorem dX10_count_94 : decode cX10_count 94 = .ok (.istore_n 2, 1) := by decide +kernel
theorem dX10_count_95 : decode cX10_count 95 = .ok (.iinc 3 1, 3) := by decide +kernel
theorem dX10_count_98 : decode cX10_count 98 = .ok (.goto (-28), 3) := by decide +kernel
theorem dX10_count_101 : decode cX10_count 101 = .ok (.iload_n 2, 1) := by decide +kernel
theorem dX10_count_102 : decode cX10_count 102 = .ok (.ireturn, 1) := by decide +kernel
theorem dX10_count_103 : decode cX10_count 103 = .ok (.aload_n 0, 1) := by decide +kernel
theorem dX10_count_104 : decode cX10_count 104 = .ok (.getfield 205, 3) := by decide +kernel
theorem dX10_count_107 : decode cX10_count 107 = .ok (.ireturn, 1) := by decide +kernel
theorem dX10_count_108 : decode cX10_count 108 = .ok (.aload_n 0, 1) := by decide +kernel
theorem dX10_count_109 : decode cX10_count 109 = .ok (.getfield 295, 3) := by decide +kernel
theorem dX10_count_112 : decode cX10_count 112 = .ok (.ireturn, 1) := by decide +kernel
theorem dX10_count_113 : decode cX10_count 113 = .ok (.iconst 0, 1) := by decide +kernel
theorem dX10_count_114 : decode cX10_count 114 = .ok (.istore_n 3, 1) := by decide +kernel
theorem dX10_count_115 : decode cX10_count 115 = .ok (.iload_n 3, 1) := by decide +kernel
theorem dX10_count_116 : decode cX10_count 116 = .ok (.aload_n 0, 1) := by decide +kernel
theorem dX10_count_117 : decode cX10_count 117 = .ok (.getfield 295, 3) := by decide +kernel
theorem dX10_count_120 : decode cX10_count 120 = .ok (.if_icmp .ge 25, 3) := by decide +kernel
theorem dX10_count_123 : decode cX10_count 123 = .ok (.iload_n 2, 1) := by decide +kernel
theorem dX10_count_124 : decode cX10_count 124 = .ok (.aload_n 0, 1) := by decide +kernel
theorem dX10_count_125 : decode cX10_count 125 = .ok (.iload_n 3, 1) := by decide +kernel
theorem dX10_count_126 : decode cX10_count 126 = .ok (.invokevirtual 306, 3) := by decide +kernel
theorem dX10_count_129 : decode cX10_count 129 = .ok (.ifCond .lt 7, 3) := by decide +kernel
theorem dX10_count_132 : decode cX10_count 132 = .ok (.iconst 1, 1) := by decide +kernel
theorem dX10_count_133 : decode cX10_count 133 = .ok (.goto 4, 3) := by decide +kernel
theorem dX10_count_136 : decode cX10_count 136 = .ok (.iconst 0, 1) := by decide +kernel
theorem dX10_count_137 : decode cX10_count 137 = .ok (.iadd, 1) := by decide +kernel
theorem dX10_count_138 : decode cX10_count 138 = .ok (.istore_n 2, 1) := by decide +kernel
theorem dX10_count_139 : decode cX10_count 139 = .ok (.iinc 3 1, 3) := by decide +kernel
theorem dX10_count_142 : decode cX10_count 142 = .ok (.goto (-27), 3) := by decide +kernel
theorem dX10_count_145 : decode cX10_count 145 = .ok (.iload_n 2, 1) := by decide +kernel
theorem dX10_count_146 : decode cX10_count 146 = .ok (.ireturn, 1) := by decide +kernel
theorem dX10_count_147 : decode cX10_count 147 = .ok (.iload_n 1, 1) := by decide +kernel
theorem dX10_count_148 : decode cX10_count 148 = .ok (.bipush 11, 2) := by decide +kernel
theorem dX10_count_150 : decode cX10_count 150 = .ok (.bipush 17, 2) := by decide +kernel
theorem dX10_count_152 : decode cX10_count 152 = .ok (.invokestatic 168, 3) := by decide +kernel
theorem dX10_count_155 : decode cX10_count 155 = .ok (.ifCond .eq 15, 3) := by decide +kernel
theorem dX10_count_158 : decode cX10_count 158 = .ok (.aload_n 0, 1) := by decide +kernel
theorem dX10_count_159 : decode cX10_count 159 = .ok (.getfield 71, 3) := by decide +kernel
theorem dX10_count_162 : decode cX10_count 162 = .ok (.iload_n 1, 1) := by decide +kernel
theorem dX10_count_163 : decode cX10_count 163 = .ok (.bipush 10, 2) := by decide +kernel
theorem dX10_count_165 : decode cX10_count 165 = .ok (.isub, 1) := by decide +kernel
theorem dX10_count_166 : decode cX10_count 166 = .ok (.iaload, 1) := by decide +kernel
theorem dX10_count_167 : decode cX10_count 167 = .ok (.goto 5, 3) := by decide +kernel
theorem dX10_count_170 : decode cX10_count 170 = .ok (.bipush (-9), 2) := by decide +kernel
theorem dX10_count_172 : decode cX10_count 172 = .ok (.ireturn, 1) := by decide +kernel
theorem dJ6_bitCount_0f7a4_0 : decode cJ6_bitCount_0f7a4 0 = .ok (.iload_n 0, 1) := by decide +kernel
theorem dJ6_bitCount_0f7a4_1 : decode cJ6_bitCount_0f7a4 1 = .ok (.iload_n 0, 1) := by decide +kernel
theorem dJ6_bitCount_0f7a4_2 : decode cJ6_bitCount_0f7a4 2 = .ok (.iconst 1, 1) := by decide +kernel
theorem dJ6_bitCount_0f7a4_3 : decode cJ6_bitCount_0f7a4 3 = .ok (.iushr, 1) := by decide +kernel
theorem dJ6_bitCount_0f7a4_4 : decode cJ6_bitCount_0f7a4 4 = .ok (.ldc_w 265, 3) := by decide +kernel
theorem dJ6_bitCount_0f7a4_7 : decode cJ6_bitCount_0f7a4 7 = .ok (.iand, 1) := by decide +kernel
theorem dJ6_bitCount_0f7a4_8 : decode cJ6_bitCount_0f7a4 8 = .ok (.isub, 1) := by decide +kernel
theorem dJ6_bitCount_0f7a4_9 : decode cJ6_bitCount_0f7a4 9 = .ok (.istore_n 0, 1) := by decide +kernel
theorem dJ6_bitCount_0f7a4_10 : decode cJ6_bitCount_0f7a4 10 = .ok (.iload_n 0, 1) := by decide +kernel
theorem dJ6_bitCount_0f7a4_11 : decode cJ6_bitCount_0f7a4 11 = .ok (.ldc_w 266, 3) := by decide +kernel
theorem dJ6_bitCount_0f7a4_14 : decode cJ6_bitCount_0f7a4 14 = .ok (.iand, 1) := by decide +kernel
theorem dJ6_bitCount_0f7a4_15 : decode cJ6_bitCount_0f7a4 15 = .ok (.iload_n 0, 1) := by decide +kernel
theorem dJ6_bitCount_0f7a4_16 : decode cJ6_bitCount_0f7a4 16 = .ok (.iconst 2, 1) := by decide +kernel
theorem dJ6_bitCount_0f7a4_17 : decode cJ6_bitCount_0f7a4 17 = .ok (.iushr, 1) := by decide +kernel
theorem dJ6_bitCount_0f7a4_18 : decode cJ6_bitCount_0f7a4 18 = .ok (.ldc_w 266, 3) := by decide +kernel
theorem dJ6_bitCount_0f7a4_21 : decode cJ6_bitCount_0f7a4 21 = .ok (.iand, 1) := by decide +kernel
theorem dJ6_bitCount_0f7a4_22 : decode cJ6_bitCount_0f7a4 22 = .ok (.iadd, 1) := by decide +kernel
theorem dJ6_bitCount_0f7a4_23 : decode cJ6_bitCount_0f7a4 23 = .ok (.istore_n 0, 1) := by decide +kernel
theorem dJ6_bitCount_0f7a4_24 : decode cJ6_bitCount_0f7a4 24 = .ok (.iload_n 0, 1) := by decide +kernel
theorem dJ6_bitCount_0f7a4_25 : decode cJ6_bitCount_0f7a4 25 = .ok (.iload_n 0, 1) := by decide +kernel
theorem dJ6_bitCount_0f7a4_26 : decode cJ6_bitCount_0f7a4 26 = .ok (.iconst 4, 1) := by decide +kernel
theorem dJ6_bitCount_0f7a4_27 : decode cJ6_bitCount_0f7a4 27 = .ok (.iushr, 1) := by decide +kernel
theorem dJ6_bitCount_0f7a4_28 : decode cJ6_bitCount_0f7a4 28 = .ok (.iadd, 1) := by decide +kernel
theorem dJ6_bitCount_0f7a4_29 : decode cJ6_bitCount_0f7a4 29 = .ok (.ldc_w 267, 3) := by decide +kernel
theorem dJ6_bitCount_0f7a4_32 : decode cJ6_bitCount_0f7a4 32 = .ok (.iand, 1) := by decide +kernel
theorem dJ6_bitCount_0f7a4_33 : decode cJ6_bitCount_0f7a4 33 = .ok (.istore_n 0, 1) := by decide +kernel
theorem dJ6_bitCount_0f7a4_34 : decode cJ6_bitCount_0f7a4 34 = .ok (.iload_n 0, 1) := by decide +kernel
theorem dJ6_bitCount_0f7a4_35 : decode cJ6_bitCount_0f7a4 35 = .ok (.iload_n 0, 1) := by decide +kernel
theorem dJ6_bitCount_0f7a4_36 : decode cJ6_bitCount_0f7a4 36 = .ok (.bipush 8, 2) := by decide +kernel
theorem dJ6_bitCount_0f7a4_38 : decode cJ6_bitCount_0f7a4 38 = .ok (.iushr, 1) := by decide +kernel
theorem dJ6_bitCount_0f7a4_39 : decode cJ6_bitCount_0f7a4 39 = .ok (.iadd, 1) := by decide +kernel
theorem dJ6_bitCount_0f7a4_40 : decode cJ6_bitCount_0f7a4 40 = .ok (.istore_n 0, 1) := by decide +kernel
theorem dJ6_bitCount_0f7a4_41 : decode cJ6_bitCount_0f7a4 41 = .ok (.iload_n 0, 1) := by decide +kernel
theorem dJ6_bitCount_0f7a4_42 : decode cJ6_bitCount_0f7a4 42 = .ok (.iload_n 0, 1) := by decide +kernel
theorem dJ6_bitCount_0f7a4_43 : decode cJ6_bitCount_0f7a4 43 = .ok (.bipush 16, 2) := by decide +kernel
theorem dJ6_bitCount_0f7a4_45 : decode cJ6_bitCount_0f7a4 45 = .ok (.iushr, 1) := by decide +kernel
theorem dJ6_bitCount_0f7a4_46 : decode cJ6_bitCount_0f7a4 46 = .ok (.iadd, 1) := by decide +kernel
theorem dJ6_bitCount_0f7a4_47 : decode cJ6_bitCount_0f7a4 47 = .ok (.istore_n 0, 1) := by decide +kernel
theorem dJ6_bitCount_0f7a4_48 : decode cJ6_bitCount_0f7a4 48 = .ok (.iload_n 0, 1) := by decide +kernel
theorem dJ6_bitCount_0f7a4_49 : decode cJ6_bitCount_0f7a4 49 = .ok (.bipush 63, 2) := by decide +kernel
theorem dJ6_bitCount_0f7a4_51 : decode cJ6_bitCount_0f7a4 51 = .ok (.iand, 1) := by decide +kernel
theorem dJ6_bitCount_0f7a4_52 : decode cJ6_bitCount_0f7a4 52 = .ok (.ireturn, 1) := by decide +kernel
theorem dJ9_floorMod_7cf53_0 : decode cJ9_floorMod_7cf53 0 = .ok (.iload_n 0, 1) := by decide +kernel
theorem dJ9_floorMod_7cf53_1 : decode cJ9_floorMod_7cf53 1 = .ok (.iload_n 1, 1) := by decide +kernel
theorem dJ9_floorMod_7cf53_2 : decode cJ9_floorMod_7cf53 2 = .ok (.irem, 1) := by decide +kernel
theorem dJ9_floorMod_7cf53_3 : decode cJ9_floorMod_7cf53 3 = .ok (.istore_n 2, 1) := by decide +kernel
theorem dJ9_floorMod_7cf53_4 : decode cJ9_floorMod_7cf53 4 = .ok (.iload_n 0, 1) := by decide +kernel
theorem dJ9_floorMod_7cf53_5 : decode cJ9_floorMod_7cf53 5 = .ok (.iload_n 1, 1) := by decide +kernel
theorem dJ9_floorMod_7cf53_6 : decode cJ9_floorMod_7cf53 6 = .ok (.ixor, 1) := by decide +kernel
theorem dJ9_floorMod_7cf53_7 : decode cJ9_floorMod_7cf53 7 = .ok (.ifCond .ge 11, 3) := by decide +kernel
theorem dJ9_floorMod_7cf53_10 : decode cJ9_floorMod_7cf53 10 = .ok (.iload_n 2, 1) := by decide +kernel
theorem dJ9_floorMod_7cf53_11 : decode cJ9_floorMod_7cf53 11 = .ok (.ifCond .eq 7, 3) := by decide +kernel
theorem dJ9_floorMod_7cf53_14 : decode cJ9_floorMod_7cf53 14 = .ok (.iload_n 2, 1) := by decide +kernel
theorem dJ9_floorMod_7cf53_15 : decode cJ9_floorMod_7cf53 15 = .ok (.iload_n 1, 1) := by decide +kernel
theorem dJ9_floorMod_7cf53_16 : decode cJ9_floorMod_7cf53 16 = .ok (.iadd, 1) := by decide +kernel
theorem dJ9_floorMod_7cf53_17 : decode cJ9_floorMod_7cf53 17 = .ok (.ireturn, 1) := by decide +kernel
theorem dJ9_floorMod_7cf53_18 : decode cJ9_floorMod_7cf53 18 = .ok (.iload_n 2, 1) := by decide +kernel
theorem dJ9_floorMod_7cf53_19 : decode cJ9_floorMod_7cf53 19 = .ok (.ireturn, 1) := by decide +kernel
theorem dJ9_abs_067f4_0 : decode cJ9_abs_067f4 0 = .ok (.lload_n 0, 1) := by decide +kernel
theorem dJ9_abs_067f4_1 : decode cJ9_abs_067f4 1 = .ok (.lconst 0, 1) := by decide +kernel
theorem dJ9_abs_067f4_2 : decode cJ9_abs_067f4 2 = .ok (.lcmp, 1) := by decide +kernel
theorem dJ9_abs_067f4_3 : decode cJ9_abs_067f4 3 = .ok (.ifCond .ge 8, 3) := by decide +kernel
theorem dJ9_abs_067f4_6 : decode cJ9_abs_067f4 6 = .ok (.lload_n 0, 1) := by decide +kernel
theorem dJ9_abs_067f4_7 : decode cJ9_abs_067f4 7 = .ok (.lneg, 1) := by decide +kernel
theorem dJ9_abs_067f4_8 : decode cJ9_abs_067f4 8 = .ok (.goto 4, 3) := by decide +kernel
theorem dJ9_abs_067f4_11 : decode cJ9_abs_067f4 11 = .ok (.lload_n 0, 1) := by decide +kernel
theorem dJ9_abs_067f4_12 : decode cJ9_abs_067f4 12 = .ok (.lreturn, 1) := by decide +kernel
theorem dJ9_max_7cf53_0 : decode cJ9_max_7cf53 0 = .ok (.iload_n 0, 1) := by decide +kernel
theorem dJ9_max_7cf53_1 : decode cJ9_max_7cf53 1 = .ok (.iload_n 1, 1) := by decide +kernel
theorem dJ9_max_7cf53_2 : decode cJ9_max_7cf53 2 = .ok (.if_icmp .lt 7, 3) := by decide +kernel
theorem dJ9_max_7cf53_5 : decode cJ9_max_7cf53 5 = .ok (.iload_n 0, 1) := by decide +kernel
theorem dJ9_max_7cf53_6 : decode cJ9_max_7cf53 6 = .ok (.goto 4, 3) := by decide +kernel
theorem dJ9_max_7cf53_9 : decode cJ9_max_7cf53 9 = .ok (.iload_n 1, 1) := by decide +kernel
theorem dJ9_max_7cf53_10 : decode cJ9_max_7cf53 10 = .ok (.ireturn, 1) := by decide +kernel
theorem dJ9_min_7cf53_0 : decode cJ9_min_7cf53 0 = .ok (.iload_n 0, 1) := by decide +kernel
theorem dJ9_min_7cf53_1 : decode cJ9_min_7cf53 1 = .ok (.iload_n 1, 1) := by decide +kernel
theorem dJ9_min_7cf53_2 : decode cJ9_min_7cf53 2 = .ok (.if_icmp .gt 7, 3) := by decide +kernel
theorem dJ9_min_7cf53_5 : decode cJ9_min_7cf53 5 = .ok (.iload_n 0, 1) := by decide +kernel
theorem dJ9_min_7cf53_6 : decode cJ9_min_7cf53 6 = .ok (.goto 4, 3) := by decide +kernel
theorem dJ9_min_7cf53_9 : decode cJ9_min_7cf53 9 = .ok (.iload_n 1, 1) := by decide +kernel
theorem dJ9_min_7cf53_10 : decode cJ9_min_7cf53 10 = .ok (.ireturn, 1) := by decide +kernel
theorem dJ7_fill_d0a16_0 : decode cJ7_fill_d0a16 0 = .ok (.iconst 0, 1) := by decide +kernel
theorem dJ7_fill_d0a16_1 : decode cJ7_fill_d0a16 1 = .ok (.istore_n 3, 1) := by decide +kernel
theorem dJ7_fill_d0a16_2 : decode cJ7_fill_d0a16 2 = .ok (.aload_n 0, 1) := by decide +kernel
theorem dJ7_fill_d0a16_3 : decode cJ7_fill_d0a16 3 = .ok (.arraylength, 1) := by decide +kernel
theorem dJ7_fill_d0a16_4 : decode cJ7_fill_d0a16 4 = .ok (.istore 4, 2) := by decide +kernel
theorem dJ7_fill_d0a16_6 : decode cJ7_fill_d0a16 6 = .ok (.iload_n 3, 1) := by decide +kernel
theorem dJ7_fill_d0a16_7 : decode cJ7_fill_d0a16 7 = .ok (.iload 4, 2) := by decide +kernel
theorem dJ7_fill_d0a16_9 : decode cJ7_fill_d0a16 9 = .ok (.if_icmp .ge 13, 3) := by decide +kernel
theorem dJ7_fill_d0a16_12 : decode cJ7_fill_d0a16 12 = .ok (.aload_n 0, 1) := by decide +kernel
theorem dJ7_fill_d0a16_13 : decode cJ7_fill_d0a16 13 = .ok (.iload_n 3, 1) := by decide +kernel
theorem dJ7_fill_d0a16_14 : decode cJ7_fill_d0a16 14 = .ok (.lload_n 1, 1) := by decide +kernel
theorem dJ7_fill_d0a16_15 : decode cJ7_fill_d0a16 15 = .ok (.lastore, 1) := by decide +kernel
theorem dJ7_fill_d0a16_16 : decode cJ7_fill_d0a16 16 = .ok (.iinc 3 1, 3) := by decide +kernel
theorem dJ7_fill_d0a16_19 : decode cJ7_fill_d0a16 19 = .ok (.goto (-13), 3) := by decide +kernel
theorem dJ7_fill_d0a16_22 : decode cJ7_fill_d0a16 22 = .ok (.return_, 1) := by decide +kernel
theorem dJ7_fill_53178_0 : decode cJ7_fill_53178 0 = .ok (.iconst 0, 1) := by decide +kernel
theorem dJ7_fill_53178_1 : decode cJ7_fill_53178 1 = .ok (.istore_n 2, 1) := by decide +kernel
theorem dJ7_fill_53178_2 : decode cJ7_fill_53178 2 = .ok (.aload_n 0, 1) := by decide +kernel
theorem dJ7_fill_53178_3 : decode cJ7_fill_53178 3 = .ok (.arraylength, 1) := by decide +kernel
theorem dJ7_fill_53178_4 : decode cJ7_fill_53178 4 = .ok (.istore_n 3, 1) := by decide +kernel
theorem dJ7_fill_53178_5 : decode cJ7_fill_53178 5 = .ok (.iload_n 2, 1) := by decide +kernel
theorem dJ7_fill_53178_6 : decode cJ7_fill_53178 6 = .ok (.iload_n 3, 1) := by decide +kernel
theorem dJ7_fill_53178_7 : decode cJ7_fill_53178 7 = .ok (.if_icmp .ge 13, 3) := by decide +kernel
theorem dJ7_fill_53178_10 : decode cJ7_fill_53178 10 = .ok (.aload_n 0, 1) := by decide +kernel
theorem dJ7_fill_53178_11 : decode cJ7_fill_53178 11 = .ok (.iload_n 2, 1) := by decide +kernel
theorem dJ7_fill_53178_12 : decode cJ7_fill_53178 12 = .ok (.iload_n 1, 1) := by decide +kernel
theorem dJ7_fill_53178_13 : decode cJ7_fill_53178 13 = .ok (.iastore, 1) := by decide +kernel
theorem dJ7_fill_53178_14 : decode cJ7_fill_53178 14 = .ok (.iinc 2 1, 3) := by decide +kernel
theorem dJ7_fill_53178_17 : decode cJ7_fill_53178 17 = .ok (.goto (-12), 3) := by decide +kernel
theorem dJ7_fill_53178_20 : decode cJ7_fill_53178 20 = .ok (.return_, 1) := by decide +kernel

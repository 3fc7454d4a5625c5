theorem d_M_changed_0 : decode mb_M_changed 0 = .ok (.aload_n 0, 1) := by decide +kernel
theorem d_M_changed_1 : decode mb_M_changed 1 = .ok (.iconst 1, 1) := by decide +kernel
theorem d_M_changed_2 : decode mb_M_changed 2 = .ok (.invokevirtual 101, 3) := by decide +kernel
theorem d_M_changed_5 : decode mb_M_changed 5 = .ok (.ifCond .eq 7, 3) := by decide +kernel
theorem d_M_changed_8 : decode mb_M_changed 8 = .ok (.iconst 1, 1) := by decide +kernel
theorem d_M_changed_9 : decode mb_M_changed 9 = .ok (.goto 4, 3) := by decide +kernel
theorem d_M_changed_12 : decode mb_M_changed 12 = .ok (.iconst 0, 1) := by decide +kernel
theorem d_M_changed_13 : decode mb_M_changed 13 = .ok (.istore_n 3, 1) := by decide +kernel
theorem d_M_changed_14 : decode mb_M_changed 14 = .ok (.iload_n 1, 1) := by decide +kernel
theorem d_M_changed_15 : decode mb_M_changed 15 = .ok (.ifCond .ne 15, 3) := by decide +kernel
theorem d_M_changed_18 : decode mb_M_changed 18 = .ok (.aload_n 0, 1) := by decide +kernel
theorem d_M_changed_19 : decode mb_M_changed 19 = .ok (.iconst 0, 1) := by decide +kernel
theorem d_M_changed_20 : decode mb_M_changed 20 = .ok (.iload_n 2, 1) := by decide +kernel
theorem d_M_changed_21 : decode mb_M_changed 21 = .ok (.iconst 0, 1) := by decide +kernel
theorem d_M_changed_22 : decode mb_M_changed 22 = .ok (.bipush 8, 2) := by decide +kernel
theorem d_M_changed_24 : decode mb_M_changed 24 = .ok (.invokevirtual 105, 3) := by decide +kernel
theorem d_M_changed_27 : decode mb_M_changed 27 = .ok (.goto 160, 3) := by decide +kernel
theorem d_M_changed_30 : decode mb_M_changed 30 = .ok (.iload_n 1, 1) := by decide +kernel
theorem d_M_changed_31 : decode mb_M_changed 31 = .ok (.iconst 3, 1) := by decide +kernel
theorem d_M_changed_32 : decode mb_M_changed 32 = .ok (.if_icmp .ne 17, 3) := by decide +kernel
theorem d_M_changed_35 : decode mb_M_changed 35 = .ok (.aload_n 0, 1) := by decide +kernel
theorem d_M_changed_36 : decode mb_M_changed 36 = .ok (.sipush 255, 3) := by decide +kernel
theorem d_M_changed_39 : decode mb_M_changed 39 = .ok (.iload_n 2, 1) := by decide +kernel
theorem d_M_changed_40 : decode mb_M_changed 40 = .ok (.isub, 1) := by decide +kernel
theorem d_M_changed_41 : decode mb_M_changed 41 = .ok (.bipush 8, 2) := by decide +kernel
theorem d_M_changed_43 : decode mb_M_changed 43 = .ok (.invokevirtual 95, 3) := by decide +kernel
theorem d_M_changed_46 : decode mb_M_changed 46 = .ok (.goto 141, 3) := by decide +kernel
theorem d_M_changed_49 : decode mb_M_changed 49 = .ok (.iload_n 1, 1) := by decide +kernel
theorem d_M_changed_50 : decode mb_M_changed 50 = .ok (.iconst 4, 1) := by decide +kernel
theorem d_M_changed_51 : decode mb_M_changed 51 = .ok (.if_icmp .ne 9, 3) := by decide +kernel
theorem d_M_changed_54 : decode mb_M_changed 54 = .ok (.iload_n 2, 1) := by decide +kernel
theorem d_M_changed_55 : decode mb_M_changed 55 = .ok (.iconst 2, 1) := by decide +kernel
theorem d_M_changed_56 : decode mb_M_changed 56 = .ok (.idiv, 1) := by decide +kernel
theorem d_M_changed_57 : decode mb_M_changed 57 = .ok (.goto 130, 3) := by decide +kernel
theorem d_M_changed_60 : decode mb_M_changed 60 = .ok (.iload_n 1, 1) := by decide +kernel
theorem d_M_changed_61 : decode mb_M_changed 61 = .ok (.bipush 6, 2) := by decide +kernel
theorem d_M_changed_63 : decode mb_M_changed 63 = .ok (.if_icmp .ne 15, 3) := by decide +kernel
theorem d_M_changed_66 : decode mb_M_changed 66 = .ok (.iload_n 2, 1) := by decide +kernel
theorem d_M_changed_67 : decode mb_M_changed 67 = .ok (.iconst 2, 1) := by decide +kernel
theorem d_M_changed_68 : decode mb_M_changed 68 = .ok (.idiv, 1) := by decide +kernel
theorem d_M_changed_69 : decode mb_M_changed 69 = .ok (.sipush 128, 3) := by decide +kernel
theorem d_M_changed_72 : decode mb_M_changed 72 = .ok (.iload_n 3, 1) := by decide +kernel
theorem d_M_changed_73 : decode mb_M_changed 73 = .ok (.imul, 1) := by decide +kernel
theorem d_M_changed_74 : decode mb_M_changed 74 = .ok (.iadd, 1) := by decide +kernel
theorem d_M_changed_75 : decode mb_M_changed 75 = .ok (.goto 112, 3) := by decide +kernel
theorem d_M_changed_78 : decode mb_M_changed 78 = .ok (.iload_n 1, 1) := by decide +kernel
theorem d_M_changed_79 : decode mb_M_changed 79 = .ok (.bipush 7, 2) := by decide +kernel
theorem d_M_changed_81 : decode mb_M_changed 81 = .ok (.if_icmp .ne 15, 3) := by decide +kernel
theorem d_M_changed_84 : decode mb_M_changed 84 = .ok (.iload_n 2, 1) := by decide +kernel
theorem d_M_changed_85 : decode mb_M_changed 85 = .ok (.iconst 2, 1) := by decide +kernel
theorem d_M_changed_86 : decode mb_M_changed 86 = .ok (.idiv, 1) := by decide +kernel
theorem d_M_changed_87 : decode mb_M_changed 87 = .ok (.iload_n 2, 1) := by decide +kernel
theorem d_M_changed_88 : decode mb_M_changed 88 = .ok (.sipush 128, 3) := by decide +kernel
theorem d_M_changed_91 : decode mb_M_changed 91 = .ok (.iand, 1) := by decide +kernel
theorem d_M_changed_92 : decode mb_M_changed 92 = .ok (.iadd, 1) := by decide +kernel
theorem d_M_changed_93 : decode mb_M_changed 93 = .ok (.goto 94, 3) := by decide +kernel
theorem d_M_changed_96 : decode mb_M_changed 96 = .ok (.iload_n 1, 1) := by decide +kernel
theorem d_M_changed_97 : decode mb_M_changed 97 = .ok (.bipush 8, 2) := by decide +kernel
theorem d_M_changed_99 : decode mb_M_changed 99 = .ok (.if_icmp .ne 13, 3) := by decide +kernel
theorem d_M_changed_102 : decode mb_M_changed 102 = .ok (.iconst 2, 1) := by decide +kernel
theorem d_M_changed_103 : decode mb_M_changed 103 = .ok (.iload_n 2, 1) := by decide +kernel
theorem d_M_changed_104 : decode mb_M_changed 104 = .ok (.imul, 1) := by decide +kernel
theorem d_M_changed_105 : decode mb_M_changed 105 = .ok (.sipush 255, 3) := by decide +kernel
theorem d_M_changed_108 : decode mb_M_changed 108 = .ok (.iand, 1) := by decide +kernel
theorem d_M_changed_109 : decode mb_M_changed 109 = .ok (.goto 78, 3) := by decide +kernel
theorem d_M_changed_112 : decode mb_M_changed 112 = .ok (.iload_n 1, 1) := by decide +kernel
theorem d_M_changed_113 : decode mb_M_changed 113 = .ok (.bipush 9, 2) := by decide +kernel
theorem d_M_changed_115 : decode mb_M_changed 115 = .ok (.if_icmp .ne 15, 3) := by decide +kernel
theorem d_M_changed_118 : decode mb_M_changed 118 = .ok (.iconst 2, 1) := by decide +kernel
theorem d_M_changed_119 : decode mb_M_changed 119 = .ok (.iload_n 2, 1) := by decide +kernel
theorem d_M_changed_120 : decode mb_M_changed 120 = .ok (.imul, 1) := by decide +kernel
theorem d_M_changed_121 : decode mb_M_changed 121 = .ok (.sipush 255, 3) := by decide +kernel
theorem d_M_changed_124 : decode mb_M_changed 124 = .ok (.iand, 1) := by decide +kernel
theorem d_M_changed_125 : decode mb_M_changed 125 = .ok (.iload_n 3, 1) := by decide +kernel
theorem d_M_changed_126 : decode mb_M_changed 126 = .ok (.iadd, 1) := by decide +kernel
theorem d_M_changed_127 : decode mb_M_changed 127 = .ok (.goto 60, 3) := by decide +kernel
theorem d_M_changed_130 : decode mb_M_changed 130 = .ok (.iload_n 1, 1) := by decide +kernel
theorem d_M_changed_131 : decode mb_M_changed 131 = .ok (.bipush 10, 2) := by decide +kernel
theorem d_M_changed_133 : decode mb_M_changed 133 = .ok (.if_icmp .ne 15, 3) := by decide +kernel
theorem d_M_changed_136 : decode mb_M_changed 136 = .ok (.iload_n 2, 1) := by decide +kernel
theorem d_M_changed_137 : decode mb_M_changed 137 = .ok (.sipush 255, 3) := by decide +kernel
theorem d_M_changed_140 : decode mb_M_changed 140 = .ok (.iadd, 1) := by decide +kernel
theorem d_M_changed_141 : decode mb_M_changed 141 = .ok (.sipush 255, 3) := by decide +kernel
theorem d_M_changed_144 : decode mb_M_changed 144 = .ok (.iand, 1) := by decide +kernel
theorem d_M_changed_145 : decode mb_M_changed 145 = .ok (.goto 42, 3) := by decide +kernel
theorem d_M_changed_148 : decode mb_M_changed 148 = .ok (.iload_n 1, 1) := by decide +kernel
theorem d_M_changed_149 : decode mb_M_changed 149 = .ok (.bipush 12, 2) := by decide +kernel
theorem d_M_changed_151 : decode mb_M_changed 151 = .ok (.if_icmp .ne 13, 3) := by decide +kernel
theorem d_M_changed_154 : decode mb_M_changed 154 = .ok (.iload_n 2, 1) := by decide +kernel
theorem d_M_changed_155 : decode mb_M_changed 155 = .ok (.iconst 1, 1) := by decide +kernel
theorem d_M_changed_156 : decode mb_M_changed 156 = .ok (.iadd, 1) := by decide +kernel
theorem d_M_changed_157 : decode mb_M_changed 157 = .ok (.sipush 255, 3) := by decide +kernel
theorem d_M_changed_160 : decode mb_M_changed 160 = .ok (.iand, 1) := by decide +kernel
theorem d_M_changed_161 : decode mb_M_changed 161 = .ok (.goto 26, 3) := by decide +kernel
theorem d_M_changed_164 : decode mb_M_changed 164 = .ok (.iload_n 1, 1) := by decide +kernel
theorem d_M_changed_165 : decode mb_M_changed 165 = .ok (.bipush 13, 2) := by decide +kernel
theorem d_M_changed_167 : decode mb_M_changed 167 = .ok (.if_icmp .ne 13, 3) := by decide +kernel
theorem d_M_changed_170 : decode mb_M_changed 170 = .ok (.aload_n 0, 1) := by decide +kernel
theorem d_M_changed_171 : decode mb_M_changed 171 = .ok (.iload_n 2, 1) := by decide +kernel
theorem d_M_changed_172 : decode mb_M_changed 172 = .ok (.bipush 8, 2) := by decide +kernel
theorem d_M_changed_174 : decode mb_M_changed 174 = .ok (.invokevirtual 95, 3) := by decide +kernel
theorem d_M_changed_177 : decode mb_M_changed 177 = .ok (.goto 10, 3) := by decide +kernel
theorem d_M_changed_180 : decode mb_M_changed 180 = .ok (.aload_n 0, 1) := by decide +kernel
theorem d_M_changed_181 : decode mb_M_changed 181 = .ok (.iconst 0, 1) := by decide +kernel
theorem d_M_changed_182 : decode mb_M_changed 182 = .ok (.bipush 8, 2) := by decide +kernel
theorem d_M_changed_184 : decode mb_M_changed 184 = .ok (.invokevirtual 95, 3) := by decide +kernel
theorem d_M_changed_187 : decode mb_M_changed 187 = .ok (.istore 4, 2) := by decide +kernel
theorem d_M_changed_189 : decode mb_M_changed 189 = .ok (.aload_n 0, 1) := by decide +kernel
theorem d_M_changed_190 : decode mb_M_changed 190 = .ok (.iload 4, 2) := by decide +kernel
theorem d_M_changed_192 : decode mb_M_changed 192 = .ok (.bipush 8, 2) := by decide +kernel
theorem d_M_changed_194 : decode mb_M_changed 194 = .ok (.invokevirtual 66, 3) := by decide +kernel
theorem d_M_changed_197 : decode mb_M_changed 197 = .ok (.iload_n 1, 1) := by decide +kernel
theorem d_M_changed_198 : decode mb_M_changed 198 = .ok (.iconst 3, 1) := by decide +kernel
theorem d_M_changed_199 : decode mb_M_changed 199 = .ok (.if_icmp .ne 9, 3) := by decide +kernel
theorem d_M_changed_202 : decode mb_M_changed 202 = .ok (.aload_n 0, 1) := by decide +kernel
theorem d_M_changed_203 : decode mb_M_changed 203 = .ok (.iconst 1, 1) := by decide +kernel
theorem d_M_changed_204 : decode mb_M_changed 204 = .ok (.iconst 1, 1) := by decide +kernel
theorem d_M_changed_205 : decode mb_M_changed 205 = .ok (.invokevirtual 62, 3) := by decide +kernel
theorem d_M_changed_208 : decode mb_M_changed 208 = .ok (.iload_n 1, 1) := by decide +kernel
theorem d_M_changed_209 : decode mb_M_changed 209 = .ok (.bipush 15, 2) := by decide +kernel
theorem d_M_changed_211 : decode mb_M_changed 211 = .ok (.if_icmp .ne 9, 3) := by decide +kernel
theorem d_M_changed_214 : decode mb_M_changed 214 = .ok (.aload_n 0, 1) := by decide +kernel
theorem d_M_changed_215 : decode mb_M_changed 215 = .ok (.iconst 1, 1) := by decide +kernel
theorem d_M_changed_216 : decode mb_M_changed 216 = .ok (.iconst 0, 1) := by decide +kernel
theorem d_M_changed_217 : decode mb_M_changed 217 = .ok (.invokevirtual 62, 3) := by decide +kernel
theorem d_M_changed_220 : decode mb_M_changed 220 = .ok (.iload_n 1, 1) := by decide +kernel
theorem d_M_changed_221 : decode mb_M_changed 221 = .ok (.iconst 4, 1) := by decide +kernel
theorem d_M_changed_222 : decode mb_M_changed 222 = .ok (.if_icmp .lt 26, 3) := by decide +kernel
theorem d_M_changed_225 : decode mb_M_changed 225 = .ok (.iload_n 1, 1) := by decide +kernel
theorem d_M_changed_226 : decode mb_M_changed 226 = .ok (.bipush 7, 2) := by decide +kernel
theorem d_M_changed_228 : decode mb_M_changed 228 = .ok (.if_icmp .gt 20, 3) := by decide +kernel
theorem d_M_changed_231 : decode mb_M_changed 231 = .ok (.aload_n 0, 1) := by decide +kernel
theorem d_M_changed_232 : decode mb_M_changed 232 = .ok (.iconst 1, 1) := by decide +kernel
theorem d_M_changed_233 : decode mb_M_changed 233 = .ok (.iload_n 2, 1) := by decide +kernel
theorem d_M_changed_234 : decode mb_M_changed 234 = .ok (.iconst 1, 1) := by decide +kernel
theorem d_M_changed_235 : decode mb_M_changed 235 = .ok (.iand, 1) := by decide +kernel
theorem d_M_changed_236 : decode mb_M_changed 236 = .ok (.iconst 1, 1) := by decide +kernel
theorem d_M_changed_237 : decode mb_M_changed 237 = .ok (.if_icmp .ne 7, 3) := by decide +kernel
theorem d_M_changed_240 : decode mb_M_changed 240 = .ok (.iconst 1, 1) := by decide +kernel
theorem d_M_changed_241 : decode mb_M_changed 241 = .ok (.goto 4, 3) := by decide +kernel
theorem d_M_changed_244 : decode mb_M_changed 244 = .ok (.iconst 0, 1) := by decide +kernel
theorem d_M_changed_245 : decode mb_M_changed 245 = .ok (.invokevirtual 62, 3) := by decide +kernel
theorem d_M_changed_248 : decode mb_M_changed 248 = .ok (.iload_n 1, 1) := by decide +kernel
theorem d_M_changed_249 : decode mb_M_changed 249 = .ok (.bipush 8, 2) := by decide +kernel
theorem d_M_changed_251 : decode mb_M_changed 251 = .ok (.if_icmp .eq 9, 3) := by decide +kernel
theorem d_M_changed_254 : decode mb_M_changed 254 = .ok (.iload_n 1, 1) := by decide +kernel
theorem d_M_changed_255 : decode mb_M_changed 255 = .ok (.bipush 9, 2) := by decide +kernel
theorem d_M_changed_257 : decode mb_M_changed 257 = .ok (.if_icmp .ne 43, 3) := by decide +kernel
theorem d_M_changed_260 : decode mb_M_changed 260 = .ok (.aload_n 0, 1) := by decide +kernel
theorem d_M_changed_261 : decode mb_M_changed 261 = .ok (.iconst 1, 1) := by decide +kernel
theorem d_M_changed_262 : decode mb_M_changed 262 = .ok (.iload_n 2, 1) := by decide +kernel
theorem d_M_changed_263 : decode mb_M_changed 263 = .ok (.bipush 127, 2) := by decide +kernel
theorem d_M_changed_265 : decode mb_M_changed 265 = .ok (.if_icmp .le 7, 3) := by decide +kernel
theorem d_M_changed_268 : decode mb_M_changed 268 = .ok (.iconst 1, 1) := by decide +kernel
theorem d_M_changed_269 : decode mb_M_changed 269 = .ok (.goto 4, 3) := by decide +kernel
theorem d_M_changed_272 : decode mb_M_changed 272 = .ok (.iconst 0, 1) := by decide +kernel
theorem d_M_changed_273 : decode mb_M_changed 273 = .ok (.invokevirtual 62, 3) := by decide +kernel
theorem d_M_changed_276 : decode mb_M_changed 276 = .ok (.aload_n 0, 1) := by decide +kernel
theorem d_M_changed_277 : decode mb_M_changed 277 = .ok (.iconst 2, 1) := by decide +kernel
theorem d_M_changed_278 : decode mb_M_changed 278 = .ok (.aload_n 0, 1) := by decide +kernel
theorem d_M_changed_279 : decode mb_M_changed 279 = .ok (.bipush 8, 2) := by decide +kernel
theorem d_M_changed_281 : decode mb_M_changed 281 = .ok (.invokevirtual 101, 3) := by decide +kernel
theorem d_M_changed_284 : decode mb_M_changed 284 = .ok (.aload_n 0, 1) := by decide +kernel
theorem d_M_changed_285 : decode mb_M_changed 285 = .ok (.iconst 1, 1) := by decide +kernel
theorem d_M_changed_286 : decode mb_M_changed 286 = .ok (.invokevirtual 101, 3) := by decide +kernel
theorem d_M_changed_289 : decode mb_M_changed 289 = .ok (.if_icmp .eq 7, 3) := by decide +kernel
theorem d_M_changed_292 : decode mb_M_changed 292 = .ok (.iconst 1, 1) := by decide +kernel
theorem d_M_changed_293 : decode mb_M_changed 293 = .ok (.goto 4, 3) := by decide +kernel
theorem d_M_changed_296 : decode mb_M_changed 296 = .ok (.iconst 0, 1) := by decide +kernel
theorem d_M_changed_297 : decode mb_M_changed 297 = .ok (.invokevirtual 62, 3) := by decide +kernel
theorem d_M_changed_300 : decode mb_M_changed 300 = .ok (.iload_n 1, 1) := by decide +kernel
theorem d_M_changed_301 : decode mb_M_changed 301 = .ok (.bipush 10, 2) := by decide +kernel
theorem d_M_changed_303 : decode mb_M_changed 303 = .ok (.if_icmp .ne 20, 3) := by decide +kernel
theorem d_M_changed_306 : decode mb_M_changed 306 = .ok (.aload_n 0, 1) := by decide +kernel
theorem d_M_changed_307 : decode mb_M_changed 307 = .ok (.iconst 2, 1) := by decide +kernel
theorem d_M_changed_308 : decode mb_M_changed 308 = .ok (.iload_n 2, 1) := by decide +kernel
theorem d_M_changed_309 : decode mb_M_changed 309 = .ok (.sipush 128, 3) := by decide +kernel
theorem d_M_changed_312 : decode mb_M_changed 312 = .ok (.if_icmp .ne 7, 3) := by decide +kernel
theorem d_M_changed_315 : decode mb_M_changed 315 = .ok (.iconst 1, 1) := by decide +kernel
theorem d_M_changed_316 : decode mb_M_changed 316 = .ok (.goto 4, 3) := by decide +kernel
theorem d_M_changed_319 : decode mb_M_changed 319 = .ok (.iconst 0, 1) := by decide +kernel
theorem d_M_changed_320 : decode mb_M_changed 320 = .ok (.invokevirtual 62, 3) := by decide +kernel
theorem d_M_changed_323 : decode mb_M_changed 323 = .ok (.iload_n 1, 1) := by decide +kernel
theorem d_M_changed_324 : decode mb_M_changed 324 = .ok (.bipush 12, 2) := by decide +kernel
theorem d_M_changed_326 : decode mb_M_changed 326 = .ok (.if_icmp .ne 19, 3) := by decide +kernel
theorem d_M_changed_329 : decode mb_M_changed 329 = .ok (.aload_n 0, 1) := by decide +kernel
theorem d_M_changed_330 : decode mb_M_changed 330 = .ok (.iconst 2, 1) := by decide +kernel
theorem d_M_changed_331 : decode mb_M_changed 331 = .ok (.iload_n 2, 1) := by decide +kernel
theorem d_M_changed_332 : decode mb_M_changed 332 = .ok (.bipush 127, 2) := by decide +kernel
theorem d_M_changed_334 : decode mb_M_changed 334 = .ok (.if_icmp .ne 7, 3) := by decide +kernel
theorem d_M_changed_337 : decode mb_M_changed 337 = .ok (.iconst 1, 1) := by decide +kernel
theorem d_M_changed_338 : decode mb_M_changed 338 = .ok (.goto 4, 3) := by decide +kernel
theorem d_M_changed_341 : decode mb_M_changed 341 = .ok (.iconst 0, 1) := by decide +kernel
theorem d_M_changed_342 : decode mb_M_changed 342 = .ok (.invokevirtual 62, 3) := by decide +kernel
theorem d_M_changed_345 : decode mb_M_changed 345 = .ok (.iload 4, 2) := by decide +kernel
theorem d_M_changed_347 : decode mb_M_changed 347 = .ok (.ireturn, 1) := by decide +kernel
theorem d_M_lower_0 : decode mb_M_lower 0 = .ok (.iload_n 1, 1) := by decide +kernel
theorem d_M_lower_1 : decode mb_M_lower 1 = .ok (.bipush 15, 2) := by decide +kernel
theorem d_M_lower_3 : decode mb_M_lower 3 = .ok (.iand, 1) := by decide +kernel
theorem d_M_lower_4 : decode mb_M_lower 4 = .ok (.istore_n 2, 1) := by decide +kernel
theorem d_M_lower_5 : decode mb_M_lower 5 = .ok (.iload_n 1, 1) := by decide +kernel
theorem d_M_lower_6 : decode mb_M_lower 6 = .ok (.iconst 4, 1) := by decide +kernel
theorem d_M_lower_7 : decode mb_M_lower 7 = .ok (.ishr, 1) := by decide +kernel
theorem d_M_lower_8 : decode mb_M_lower 8 = .ok (.istore_n 3, 1) := by decide +kernel
theorem d_M_lower_9 : decode mb_M_lower 9 = .ok (.iload_n 3, 1) := by decide +kernel
theorem d_M_lower_10 : decode mb_M_lower 10 = .ok (.iconst 4, 1) := by decide +kernel
theorem d_M_lower_11 : decode mb_M_lower 11 = .ok (.if_icmp .eq 8, 3) := by decide +kernel
theorem d_M_lower_14 : decode mb_M_lower 14 = .ok (.iload_n 3, 1) := by decide +kernel
theorem d_M_lower_15 : decode mb_M_lower 15 = .ok (.iconst 5, 1) := by decide +kernel
theorem d_M_lower_16 : decode mb_M_lower 16 = .ok (.if_icmp .ne 7, 3) := by decide +kernel
theorem d_M_lower_19 : decode mb_M_lower 19 = .ok (.iconst 1, 1) := by decide +kernel
theorem d_M_lower_20 : decode mb_M_lower 20 = .ok (.goto 4, 3) := by decide +kernel
theorem d_M_lower_23 : decode mb_M_lower 23 = .ok (.iconst 0, 1) := by decide +kernel
theorem d_M_lower_24 : decode mb_M_lower 24 = .ok (.istore 4, 2) := by decide +kernel
theorem d_M_lower_26 : decode mb_M_lower 26 = .ok (.aload_n 0, 1) := by decide +kernel
theorem d_M_lower_27 : decode mb_M_lower 27 = .ok (.iload_n 2, 1) := by decide +kernel
theorem d_M_lower_28 : decode mb_M_lower 28 = .ok (.iconst 1, 1) := by decide +kernel
theorem d_M_lower_29 : decode mb_M_lower 29 = .ok (.if_icmp .eq 30, 3) := by decide +kernel
theorem d_M_lower_32 : decode mb_M_lower 32 = .ok (.iload_n 2, 1) := by decide +kernel
theorem d_M_lower_33 : decode mb_M_lower 33 = .ok (.iconst 2, 1) := by decide +kernel
theorem d_M_lower_34 : decode mb_M_lower 34 = .ok (.if_icmp .eq 25, 3) := by decide +kernel
theorem d_M_lower_37 : decode mb_M_lower 37 = .ok (.iload_n 2, 1) := by decide +kernel
theorem d_M_lower_38 : decode mb_M_lower 38 = .ok (.iconst 5, 1) := by decide +kernel
theorem d_M_lower_39 : decode mb_M_lower 39 = .ok (.if_icmp .eq 20, 3) := by decide +kernel
theorem d_M_lower_42 : decode mb_M_lower 42 = .ok (.iload_n 2, 1) := by decide +kernel
theorem d_M_lower_43 : decode mb_M_lower 43 = .ok (.bipush 11, 2) := by decide +kernel
theorem d_M_lower_45 : decode mb_M_lower 45 = .ok (.if_icmp .eq 14, 3) := by decide +kernel
theorem d_M_lower_48 : decode mb_M_lower 48 = .ok (.iload_n 2, 1) := by decide +kernel
theorem d_M_lower_49 : decode mb_M_lower 49 = .ok (.bipush 14, 2) := by decide +kernel
theorem d_M_lower_51 : decode mb_M_lower 51 = .ok (.if_icmp .ne 12, 3) := by decide +kernel
theorem d_M_lower_54 : decode mb_M_lower 54 = .ok (.iload 4, 2) := by decide +kernel
theorem d_M_lower_56 : decode mb_M_lower 56 = .ok (.ifCond .eq 7, 3) := by decide +kernel
theorem d_M_lower_59 : decode mb_M_lower 59 = .ok (.iconst 1, 1) := by decide +kernel
theorem d_M_lower_60 : decode mb_M_lower 60 = .ok (.goto 4, 3) := by decide +kernel
theorem d_M_lower_63 : decode mb_M_lower 63 = .ok (.iconst 0, 1) := by decide +kernel
theorem d_M_lower_64 : decode mb_M_lower 64 = .ok (.putfield 76, 3) := by decide +kernel
theorem d_M_lower_67 : decode mb_M_lower 67 = .ok (.aload_n 0, 1) := by decide +kernel
theorem d_M_lower_68 : decode mb_M_lower 68 = .ok (.getfield 76, 3) := by decide +kernel
theorem d_M_lower_71 : decode mb_M_lower 71 = .ok (.ifCond .eq 4, 3) := by decide +kernel
theorem d_M_lower_74 : decode mb_M_lower 74 = .ok (.return_, 1) := by decide +kernel
theorem d_M_lower_75 : decode mb_M_lower 75 = .ok (.iload_n 3, 1) := by decide +kernel
theorem d_M_lower_76 : decode mb_M_lower 76 = .ok (.iconst 4, 1) := by decide +kernel
theorem d_M_lower_77 : decode mb_M_lower 77 = .ok (.if_icmp .ne 8, 3) := by decide +kernel
theorem d_M_lower_80 : decode mb_M_lower 80 = .ok (.bipush 8, 2) := by decide +kernel
theorem d_M_lower_82 : decode mb_M_lower 82 = .ok (.goto 5, 3) := by decide +kernel
theorem d_M_lower_85 : decode mb_M_lower 85 = .ok (.bipush 9, 2) := by decide +kernel
theorem d_M_lower_87 : decode mb_M_lower 87 = .ok (.istore 5, 2) := by decide +kernel
theorem d_M_lower_89 : decode mb_M_lower 89 = .ok (.iload 4, 2) := by decide +kernel
theorem d_M_lower_91 : decode mb_M_lower 91 = .ok (.ifCond .eq 32, 3) := by decide +kernel
theorem d_M_lower_94 : decode mb_M_lower 94 = .ok (.aload_n 0, 1) := by decide +kernel
theorem d_M_lower_95 : decode mb_M_lower 95 = .ok (.iload_n 2, 1) := by decide +kernel
theorem d_M_lower_96 : decode mb_M_lower 96 = .ok (.aload_n 0, 1) := by decide +kernel
theorem d_M_lower_97 : decode mb_M_lower 97 = .ok (.getfield 13, 3) := by decide +kernel
theorem d_M_lower_100 : decode mb_M_lower 100 = .ok (.iload 5, 2) := by decide +kernel
theorem d_M_lower_102 : decode mb_M_lower 102 = .ok (.iaload, 1) := by decide +kernel
theorem d_M_lower_103 : decode mb_M_lower 103 = .ok (.invokevirtual 128, 3) := by decide +kernel
theorem d_M_lower_106 : decode mb_M_lower 106 = .ok (.istore 6, 2) := by decide +kernel
theorem d_M_lower_108 : decode mb_M_lower 108 = .ok (.iload_n 2, 1) := by decide +kernel
theorem d_M_lower_109 : decode mb_M_lower 109 = .ok (.bipush 13, 2) := by decide +kernel
theorem d_M_lower_111 : decode mb_M_lower 111 = .ok (.if_icmp .eq 11, 3) := by decide +kernel
theorem d_M_lower_114 : decode mb_M_lower 114 = .ok (.aload_n 0, 1) := by decide +kernel
theorem d_M_lower_115 : decode mb_M_lower 115 = .ok (.iload 5, 2) := by decide +kernel
theorem d_M_lower_117 : decode mb_M_lower 117 = .ok (.iload 6, 2) := by decide +kernel
theorem d_M_lower_119 : decode mb_M_lower 119 = .ok (.invokevirtual 51, 3) := by decide +kernel
theorem d_M_lower_122 : decode mb_M_lower 122 = .ok (.return_, 1) := by decide +kernel
theorem d_M_lower_123 : decode mb_M_lower 123 = .ok (.aload_n 0, 1) := by decide +kernel
theorem d_M_lower_124 : decode mb_M_lower 124 = .ok (.iload_n 3, 1) := by decide +kernel
theorem d_M_lower_125 : decode mb_M_lower 125 = .ok (.ifCond .ne 7, 3) := by decide +kernel
theorem d_M_lower_128 : decode mb_M_lower 128 = .ok (.iconst 1, 1) := by decide +kernel
theorem d_M_lower_129 : decode mb_M_lower 129 = .ok (.goto 14, 3) := by decide +kernel
theorem d_M_lower_132 : decode mb_M_lower 132 = .ok (.iload_n 3, 1) := by decide +kernel
theorem d_M_lower_133 : decode mb_M_lower 133 = .ok (.bipush 6, 2) := by decide +kernel
theorem d_M_lower_135 : decode mb_M_lower 135 = .ok (.if_icmp .ne 7, 3) := by decide +kernel
theorem d_M_lower_138 : decode mb_M_lower 138 = .ok (.iconst 2, 1) := by decide +kernel
theorem d_M_lower_139 : decode mb_M_lower 139 = .ok (.goto 4, 3) := by decide +kernel
theorem d_M_lower_142 : decode mb_M_lower 142 = .ok (.iconst 3, 1) := by decide +kernel
theorem d_M_lower_143 : decode mb_M_lower 143 = .ok (.invokevirtual 92, 3) := by decide +kernel
theorem d_M_lower_146 : decode mb_M_lower 146 = .ok (.istore 6, 2) := by decide +kernel
theorem d_M_lower_148 : decode mb_M_lower 148 = .ok (.aload_n 0, 1) := by decide +kernel
theorem d_M_lower_149 : decode mb_M_lower 149 = .ok (.getfield 76, 3) := by decide +kernel
theorem d_M_lower_152 : decode mb_M_lower 152 = .ok (.ifCond .eq 4, 3) := by decide +kernel
theorem d_M_lower_155 : decode mb_M_lower 155 = .ok (.return_, 1) := by decide +kernel
theorem d_M_lower_156 : decode mb_M_lower 156 = .ok (.iload_n 2, 1) := by decide +kernel
theorem d_M_lower_157 : decode mb_M_lower 157 = .ok (.bipush 14, 2) := by decide +kernel
theorem d_M_lower_159 : decode mb_M_lower 159 = .ok (.if_icmp .ne 11, 3) := by decide +kernel
theorem d_M_lower_162 : decode mb_M_lower 162 = .ok (.aload_n 0, 1) := by decide +kernel
theorem d_M_lower_163 : decode mb_M_lower 163 = .ok (.iconst 5, 1) := by decide +kernel
theorem d_M_lower_164 : decode mb_M_lower 164 = .ok (.iload 6, 2) := by decide +kernel
theorem d_M_lower_166 : decode mb_M_lower 166 = .ok (.invokevirtual 51, 3) := by decide +kernel
theorem d_M_lower_169 : decode mb_M_lower 169 = .ok (.return_, 1) := by decide +kernel
theorem d_M_lower_170 : decode mb_M_lower 170 = .ok (.iload_n 2, 1) := by decide +kernel
theorem d_M_lower_171 : decode mb_M_lower 171 = .ok (.bipush 15, 2) := by decide +kernel
theorem d_M_lower_173 : decode mb_M_lower 173 = .ok (.if_icmp .ne 7, 3) := by decide +kernel
theorem d_M_lower_176 : decode mb_M_lower 176 = .ok (.iconst 0, 1) := by decide +kernel
theorem d_M_lower_177 : decode mb_M_lower 177 = .ok (.goto 10, 3) := by decide +kernel
theorem d_M_lower_180 : decode mb_M_lower 180 = .ok (.aload_n 0, 1) := by decide +kernel
theorem d_M_lower_181 : decode mb_M_lower 181 = .ok (.iload 6, 2) := by decide +kernel
theorem d_M_lower_183 : decode mb_M_lower 183 = .ok (.iconst 0, 1) := by decide +kernel
theorem d_M_lower_184 : decode mb_M_lower 184 = .ok (.invokevirtual 47, 3) := by decide +kernel
theorem d_M_lower_187 : decode mb_M_lower 187 = .ok (.istore 7, 2) := by decide +kernel
theorem d_M_lower_189 : decode mb_M_lower 189 = .ok (.aload_n 0, 1) := by decide +kernel
theorem d_M_lower_190 : decode mb_M_lower 190 = .ok (.iload_n 2, 1) := by decide +kernel
theorem d_M_lower_191 : decode mb_M_lower 191 = .ok (.iload 7, 2) := by decide +kernel
theorem d_M_lower_193 : decode mb_M_lower 193 = .ok (.invokevirtual 128, 3) := by decide +kernel
theorem d_M_lower_196 : decode mb_M_lower 196 = .ok (.istore 8, 2) := by decide +kernel
theorem d_M_lower_198 : decode mb_M_lower 198 = .ok (.iload_n 2, 1) := by decide +kernel
theorem d_M_lower_199 : decode mb_M_lower 199 = .ok (.bipush 13, 2) := by decide +kernel
theorem d_M_lower_201 : decode mb_M_lower 201 = .ok (.if_icmp .eq 12, 3) := by decide +kernel
theorem d_M_lower_204 : decode mb_M_lower 204 = .ok (.aload_n 0, 1) := by decide +kernel
theorem d_M_lower_205 : decode mb_M_lower 205 = .ok (.iload 6, 2) := by decide +kernel
theorem d_M_lower_207 : decode mb_M_lower 207 = .ok (.iload 8, 2) := by decide +kernel
theorem d_M_lower_209 : decode mb_M_lower 209 = .ok (.iconst 0, 1) := by decide +kernel
theorem d_M_lower_210 : decode mb_M_lower 210 = .ok (.invokevirtual 58, 3) := by decide +kernel
theorem d_M_lower_213 : decode mb_M_lower 213 = .ok (.return_, 1) := by decide +kernel
theorem d_M_holds_0 : decode mb_M_holds 0 = .ok (.aload_n 0, 1) := by decide +kernel
theorem d_M_holds_1 : decode mb_M_holds 1 = .ok (.bipush 8, 2) := by decide +kernel
theorem d_M_holds_3 : decode mb_M_holds 3 = .ok (.invokevirtual 101, 3) := by decide +kernel
theorem d_M_holds_6 : decode mb_M_holds 6 = .ok (.istore_n 2, 1) := by decide +kernel
theorem d_M_holds_7 : decode mb_M_holds 7 = .ok (.aload_n 0, 1) := by decide +kernel
theorem d_M_holds_8 : decode mb_M_holds 8 = .ok (.iconst 4, 1) := by decide +kernel
theorem d_M_holds_9 : decode mb_M_holds 9 = .ok (.invokevirtual 101, 3) := by decide +kernel
theorem d_M_holds_12 : decode mb_M_holds 12 = .ok (.istore_n 3, 1) := by decide +kernel
theorem d_M_holds_13 : decode mb_M_holds 13 = .ok (.aload_n 0, 1) := by decide +kernel
theorem d_M_holds_14 : decode mb_M_holds 14 = .ok (.iconst 2, 1) := by decide +kernel
theorem d_M_holds_15 : decode mb_M_holds 15 = .ok (.invokevirtual 101, 3) := by decide +kernel
theorem d_M_holds_18 : decode mb_M_holds 18 = .ok (.istore 4, 2) := by decide +kernel
theorem d_M_holds_20 : decode mb_M_holds 20 = .ok (.aload_n 0, 1) := by decide +kernel
theorem d_M_holds_21 : decode mb_M_holds 21 = .ok (.iconst 1, 1) := by decide +kernel
theorem d_M_holds_22 : decode mb_M_holds 22 = .ok (.invokevirtual 101, 3) := by decide +kernel
theorem d_M_holds_25 : decode mb_M_holds 25 = .ok (.istore 5, 2) := by decide +kernel
theorem d_M_holds_27 : decode mb_M_holds 27 = .ok (.iload_n 1, 1) := by decide +kernel
theorem d_M_holds_28 : decode mb_M_holds 28 = .ok (.ifCond .eq 86, 3) := by decide +kernel
theorem d_M_holds_31 : decode mb_M_holds 31 = .ok (.iload_n 1, 1) := by decide +kernel
theorem d_M_holds_32 : decode mb_M_holds 32 = .ok (.iconst 2, 1) := by decide +kernel
theorem d_M_holds_33 : decode mb_M_holds 33 = .ok (.if_icmp .ne 12, 3) := by decide +kernel
theorem d_M_holds_36 : decode mb_M_holds 36 = .ok (.iload 5, 2) := by decide +kernel
theorem d_M_holds_38 : decode mb_M_holds 38 = .ok (.ifCond .ne 7, 3) := by decide +kernel
theorem d_M_holds_41 : decode mb_M_holds 41 = .ok (.iload_n 3, 1) := by decide +kernel
theorem d_M_holds_42 : decode mb_M_holds 42 = .ok (.ifCond .eq 72, 3) := by decide +kernel
theorem d_M_holds_45 : decode mb_M_holds 45 = .ok (.iload_n 1, 1) := by decide +kernel
theorem d_M_holds_46 : decode mb_M_holds 46 = .ok (.iconst 4, 1) := by decide +kernel
theorem d_M_holds_47 : decode mb_M_holds 47 = .ok (.if_icmp .ne 8, 3) := by decide +kernel
theorem d_M_holds_50 : decode mb_M_holds 50 = .ok (.iload 5, 2) := by decide +kernel
theorem d_M_holds_52 : decode mb_M_holds 52 = .ok (.ifCond .eq 62, 3) := by decide +kernel
theorem d_M_holds_55 : decode mb_M_holds 55 = .ok (.iload_n 1, 1) := by decide +kernel
theorem d_M_holds_56 : decode mb_M_holds 56 = .ok (.bipush 6, 2) := by decide +kernel
theorem d_M_holds_58 : decode mb_M_holds 58 = .ok (.if_icmp .ne 7, 3) := by decide +kernel
theorem d_M_holds_61 : decode mb_M_holds 61 = .ok (.iload_n 3, 1) := by decide +kernel
theorem d_M_holds_62 : decode mb_M_holds 62 = .ok (.ifCond .eq 52, 3) := by decide +kernel
theorem d_M_holds_65 : decode mb_M_holds 65 = .ok (.iload_n 1, 1) := by decide +kernel
theorem d_M_holds_66 : decode mb_M_holds 66 = .ok (.bipush 8, 2) := by decide +kernel
theorem d_M_holds_68 : decode mb_M_holds 68 = .ok (.if_icmp .ne 8, 3) := by decide +kernel
theorem d_M_holds_71 : decode mb_M_holds 71 = .ok (.iload 4, 2) := by decide +kernel
theorem d_M_holds_73 : decode mb_M_holds 73 = .ok (.ifCond .eq 41, 3) := by decide +kernel
theorem d_M_holds_76 : decode mb_M_holds 76 = .ok (.iload_n 1, 1) := by decide +kernel
theorem d_M_holds_77 : decode mb_M_holds 77 = .ok (.bipush 10, 2) := by decide +kernel
theorem d_M_holds_79 : decode mb_M_holds 79 = .ok (.if_icmp .ne 7, 3) := by decide +kernel
theorem d_M_holds_82 : decode mb_M_holds 82 = .ok (.iload_n 2, 1) := by decide +kernel
theorem d_M_holds_83 : decode mb_M_holds 83 = .ok (.ifCond .eq 31, 3) := by decide +kernel
theorem d_M_holds_86 : decode mb_M_holds 86 = .ok (.iload_n 1, 1) := by decide +kernel
theorem d_M_holds_87 : decode mb_M_holds 87 = .ok (.bipush 12, 2) := by decide +kernel
theorem d_M_holds_89 : decode mb_M_holds 89 = .ok (.if_icmp .ne 9, 3) := by decide +kernel
theorem d_M_holds_92 : decode mb_M_holds 92 = .ok (.iload_n 2, 1) := by decide +kernel
theorem d_M_holds_93 : decode mb_M_holds 93 = .ok (.iload 4, 2) := by decide +kernel
theorem d_M_holds_95 : decode mb_M_holds 95 = .ok (.if_icmp .eq 19, 3) := by decide +kernel
theorem d_M_holds_98 : decode mb_M_holds 98 = .ok (.iload_n 1, 1) := by decide +kernel
theorem d_M_holds_99 : decode mb_M_holds 99 = .ok (.bipush 14, 2) := by decide +kernel
theorem d_M_holds_101 : decode mb_M_holds 101 = .ok (.if_icmp .ne 17, 3) := by decide +kernel
theorem d_M_holds_104 : decode mb_M_holds 104 = .ok (.iload_n 2, 1) := by decide +kernel
theorem d_M_holds_105 : decode mb_M_holds 105 = .ok (.iload 4, 2) := by decide +kernel
theorem d_M_holds_107 : decode mb_M_holds 107 = .ok (.if_icmp .ne 11, 3) := by decide +kernel
theorem d_M_holds_110 : decode mb_M_holds 110 = .ok (.iload_n 3, 1) := by decide +kernel
theorem d_M_holds_111 : decode mb_M_holds 111 = .ok (.ifCond .ne 7, 3) := by decide +kernel
theorem d_M_holds_114 : decode mb_M_holds 114 = .ok (.iconst 1, 1) := by decide +kernel
theorem d_M_holds_115 : decode mb_M_holds 115 = .ok (.goto 4, 3) := by decide +kernel
theorem d_M_holds_118 : decode mb_M_holds 118 = .ok (.iconst 0, 1) := by decide +kernel
theorem d_M_holds_119 : decode mb_M_holds 119 = .ok (.ireturn, 1) := by decide +kernel
theorem d_M_branch_0 : decode mb_M_branch 0 = .ok (.aload_n 0, 1) := by decide +kernel
theorem d_M_branch_1 : decode mb_M_branch 1 = .ok (.invokevirtual 54, 3) := by decide +kernel
theorem d_M_branch_4 : decode mb_M_branch 4 = .ok (.invokestatic 86, 3) := by decide +kernel
theorem d_M_branch_7 : decode mb_M_branch 7 = .ok (.istore_n 2, 1) := by decide +kernel
theorem d_M_branch_8 : decode mb_M_branch 8 = .ok (.iload_n 1, 1) := by decide +kernel
theorem d_M_branch_9 : decode mb_M_branch 9 = .ok (.bipush 15, 2) := by decide +kernel
theorem d_M_branch_11 : decode mb_M_branch 11 = .ok (.iand, 1) := by decide +kernel
theorem d_M_branch_12 : decode mb_M_branch 12 = .ok (.istore_n 3, 1) := by decide +kernel
theorem d_M_branch_13 : decode mb_M_branch 13 = .ok (.aload_n 0, 1) := by decide +kernel
theorem d_M_branch_14 : decode mb_M_branch 14 = .ok (.iload_n 3, 1) := by decide +kernel
theorem d_M_branch_15 : decode mb_M_branch 15 = .ok (.bipush 14, 2) := by decide +kernel
theorem d_M_branch_17 : decode mb_M_branch 17 = .ok (.iand, 1) := by decide +kernel
theorem d_M_branch_18 : decode mb_M_branch 18 = .ok (.invokevirtual 131, 3) := by decide +kernel
theorem d_M_branch_21 : decode mb_M_branch 21 = .ok (.iload_n 3, 1) := by decide +kernel
theorem d_M_branch_22 : decode mb_M_branch 22 = .ok (.iconst 2, 1) := by decide +kernel
theorem d_M_branch_23 : decode mb_M_branch 23 = .ok (.irem, 1) := by decide +kernel
theorem d_M_branch_24 : decode mb_M_branch 24 = .ok (.ifCond .ne 7, 3) := by decide +kernel
theorem d_M_branch_27 : decode mb_M_branch 27 = .ok (.iconst 1, 1) := by decide +kernel
theorem d_M_branch_28 : decode mb_M_branch 28 = .ok (.goto 4, 3) := by decide +kernel
theorem d_M_branch_31 : decode mb_M_branch 31 = .ok (.iconst 0, 1) := by decide +kernel
theorem d_M_branch_32 : decode mb_M_branch 32 = .ok (.if_icmp .ne 7, 3) := by decide +kernel
theorem d_M_branch_35 : decode mb_M_branch 35 = .ok (.iconst 1, 1) := by decide +kernel
theorem d_M_branch_36 : decode mb_M_branch 36 = .ok (.goto 4, 3) := by decide +kernel
theorem d_M_branch_39 : decode mb_M_branch 39 = .ok (.iconst 0, 1) := by decide +kernel
theorem d_M_branch_40 : decode mb_M_branch 40 = .ok (.istore 4, 2) := by decide +kernel
theorem d_M_branch_42 : decode mb_M_branch 42 = .ok (.iload 4, 2) := by decide +kernel
theorem d_M_branch_44 : decode mb_M_branch 44 = .ok (.ifCond .eq 16, 3) := by decide +kernel
theorem d_M_branch_47 : decode mb_M_branch 47 = .ok (.aload_n 0, 1) := by decide +kernel
theorem d_M_branch_48 : decode mb_M_branch 48 = .ok (.iconst 5, 1) := by decide +kernel
theorem d_M_branch_49 : decode mb_M_branch 49 = .ok (.aload_n 0, 1) := by decide +kernel
theorem d_M_branch_50 : decode mb_M_branch 50 = .ok (.getfield 13, 3) := by decide +kernel
theorem d_M_branch_53 : decode mb_M_branch 53 = .ok (.iconst 5, 1) := by decide +kernel
theorem d_M_branch_54 : decode mb_M_branch 54 = .ok (.iaload, 1) := by decide +kernel
theorem d_M_branch_55 : decode mb_M_branch 55 = .ok (.iload_n 2, 1) := by decide +kernel
theorem d_M_branch_56 : decode mb_M_branch 56 = .ok (.iadd, 1) := by decide +kernel
theorem d_M_branch_57 : decode mb_M_branch 57 = .ok (.invokevirtual 51, 3) := by decide +kernel
theorem d_M_branch_60 : decode mb_M_branch 60 = .ok (.return_, 1) := by decide +kernel
section MODEL
variable {l : Launch} {D : va_G}
variable {h0 h1 h2 h3 h4 h5 h6 h7 : Nat} {cI cT : ClassId} {me : Nat → Int32} {rg : Nat → Int32} {so : Nat → Int32} {sv : Nat → Int32} {tl : Nat → Int32} {su : Nat → Int32} {qu : Nat → Int32} {wa : Int32} {ru : Int32} {pe : Int32} {re : Int32} {pn : Bool} {lo : Int32} {se : Int32} {pa : Int32} {sp : Int32} {iv : Bool}
set_option maxHeartbeats 4000000 in
set_option maxRecDepth 100000 in
theorem c_mo_changed {x1 : Int32} {x2 : Int32} {z : Int32 × (Nat → Int32)} (hf : mo_changed x1 x2 rg = some z) : co_i l my_M_changed mb_M_changed 5 .int rm_m_changed D (ty_ cI cT) [.ref h0, .int x1, .int x2] (mw_ h0 h1 h2 h3 h4 h5 h6 h7 cI me rg so sv tl su qu wa ru pe re pn lo se pa sp iv) (mw_ h0 h1 h2 h3 h4 h5 h6 h7 cI me z.2 so sv tl su qu wa ru pe re pn lo se pa sp iv) z.1 := by
  refine co_i_of (by decide) (Nat.le_of_ble_eq_true rfl) ?_
  intro p e s m below meth c A ls X hr hlk hK hP hD hS hA hl
  have hx := X.1
  have hb := X.2.1
  have hl : lv_has ls 5 [(0, .ref h0), (1, .int x1), (2, .int x2)] := hl
  have J342 : ∀ (v4 : Int32) (s0 : Bool) (rg : Nat → Int32), mo_changed_j342 v4 s0 rg = some z → ∀ (H : Heap) (locs : List Loc) (ls : Array Slot), lv_has ls 5 [(4, .int v4)] → va_P D cz_all (mw_ h0 h1 h2 h3 h4 h5 h6 h7 cI me rg so sv tl su qu wa ru pe re pn lo se pa sp iv) H → va_D A (mw_ h0 h1 h2 h3 h4 h5 h6 h7 cI me rg so sv tl su qu wa ru pe re pn lo se pa sp iv) → va_S A s.heap H locs → W p l e rm_m_changed s m ([.ref h0, .int x1, .int x2] : List Value).toArray below meth c H locs 0 0 (MQ below (qs_i D (ty_ cI cT) (mw_ h0 h1 h2 h3 h4 h5 h6 h7 cI me z.2 so sv tl su qu wa ru pe re pn lo se pa sp iv) z.1 A) ([.ref h0, .int x1, .int x2] : List Value).toArray s 0 0 A) (F0 m 342 ls [.int (bz_i s0), .int (2 : Int32), .ref h0]) := by
    intro v4 s0 rg hf H locs ls hl hP hD hS
    unfold mo_changed_j342 at hf
    obtain ⟨z27, hz27, hf⟩ := op_b hf
    refine cl_v X cw_M_62 hK hP hD hS hA hl (c_mo_mark hz27) ⟨rfl, rfl, Nat.le_of_ble_eq_true rfl, Nat.le_of_ble_eq_true rfl⟩ 0 rfl rfl rfl rfl rfl (Nat.le_of_ble_eq_true rfl) d_M_changed_342 (fun H locs hP hD hS => ?_)
    refine lv_iload hx hb d_M_changed_345 (lv_at hl 0 rfl) ?_
    have hq := Option.some.inj hf
    subst hq
    exact rt_i (r := v4) X hr hlk hK rfl hP hD hS d_M_changed_347
  have J323 : ∀ (v1 : Int32) (v2 : Int32) (v4 : Int32) (rg : Nat → Int32), mo_changed_j323 v1 v2 v4 rg = some z → ∀ (H : Heap) (locs : List Loc) (ls : Array Slot), lv_has ls 5 [(0, .ref h0), (1, .int v1), (2, .int v2), (4, .int v4)] → va_P D cz_all (mw_ h0 h1 h2 h3 h4 h5 h6 h7 cI me rg so sv tl su qu wa ru pe re pn lo se pa sp iv) H → va_D A (mw_ h0 h1 h2 h3 h4 h5 h6 h7 cI me rg so sv tl su qu wa ru pe re pn lo se pa sp iv) → va_S A s.heap H locs → W p l e rm_m_changed s m ([.ref h0, .int x1, .int x2] : List Value).toArray below meth c H locs 0 0 (MQ below (qs_i D (ty_ cI cT) (mw_ h0 h1 h2 h3 h4 h5 h6 h7 cI me z.2 so sv tl su qu wa ru pe re pn lo se pa sp iv) z.1 A) ([.ref h0, .int x1, .int x2] : List Value).toArray s 0 0 A) (F0 m 323 ls []) := by
    intro v1 v2 v4 rg hf H locs ls hl hP hD hS
    unfold mo_changed_j323 at hf
    refine lv_iload_n hx hb d_M_changed_323 rfl (lv_at hl 1 rfl) ?_
    refine lv_bipush (v := (12 : Int32)) hx hb d_M_changed_324 (by decide) ?_
    refine lv_icmp_ne (tgt := 345) hx hb d_M_changed_326 (by decide) (fun hc => ?_) (fun hc => ?_)
    · replace hf := (if_neg hc).symm.trans hf
      refine lv_iload hx hb d_M_changed_345 (lv_at hl 3 rfl) ?_
      have hq := Option.some.inj hf
      subst hq
      exact rt_i (r := v4) X hr hlk hK rfl hP hD hS d_M_changed_347
    · replace hf := (if_pos hc).symm.trans hf
      refine lv_aload_n hx hb d_M_changed_329 rfl (lv_at hl 0 rfl) ?_
      refine lv_iconst (v := (2 : Int32)) hx hb d_M_changed_330 (by decide) ?_
      refine lv_iload_n hx hb d_M_changed_331 rfl (lv_at hl 2 rfl) ?_
      refine lv_bipush (v := (127 : Int32)) hx hb d_M_changed_332 (by decide) ?_
      refine lv_icmp_ne (tgt := 341) hx hb d_M_changed_334 (by decide) (fun hc => ?_) (fun hc => ?_)
      · replace hf := (if_neg hc).symm.trans hf
        refine lv_iconst (v := (0 : Int32)) hx hb d_M_changed_341 (by decide) ?_
        exact J342 v4 false rg hf _ _ _ (lv_sub hl [3] rfl) hP hD hS
      · replace hf := (if_pos hc).symm.trans hf
        refine lv_iconst (v := (1 : Int32)) hx hb d_M_changed_337 (by decide) ?_
        refine lv_goto (tgt := 342) hx hb d_M_changed_338 (by decide) ?_
        exact J342 v4 true rg hf _ _ _ (lv_sub hl [3] rfl) hP hD hS
  have J320 : ∀ (v1 : Int32) (v2 : Int32) (v4 : Int32) (s0 : Bool) (rg : Nat → Int32), mo_changed_j320 v1 v2 v4 s0 rg = some z → ∀ (H : Heap) (locs : List Loc) (ls : Array Slot), lv_has ls 5 [(0, .ref h0), (1, .int v1), (2, .int v2), (4, .int v4)] → va_P D cz_all (mw_ h0 h1 h2 h3 h4 h5 h6 h7 cI me rg so sv tl su qu wa ru pe re pn lo se pa sp iv) H → va_D A (mw_ h0 h1 h2 h3 h4 h5 h6 h7 cI me rg so sv tl su qu wa ru pe re pn lo se pa sp iv) → va_S A s.heap H locs → W p l e rm_m_changed s m ([.ref h0, .int x1, .int x2] : List Value).toArray below meth c H locs 0 0 (MQ below (qs_i D (ty_ cI cT) (mw_ h0 h1 h2 h3 h4 h5 h6 h7 cI me z.2 so sv tl su qu wa ru pe re pn lo se pa sp iv) z.1 A) ([.ref h0, .int x1, .int x2] : List Value).toArray s 0 0 A) (F0 m 320 ls [.int (bz_i s0), .int (2 : Int32), .ref h0]) := by
    intro v1 v2 v4 s0 rg hf H locs ls hl hP hD hS
    unfold mo_changed_j320 at hf
    obtain ⟨z28, hz28, hf⟩ := op_b hf
    refine cl_v X cw_M_62 hK hP hD hS hA hl (c_mo_mark hz28) ⟨rfl, rfl, Nat.le_of_ble_eq_true rfl, Nat.le_of_ble_eq_true rfl⟩ 0 rfl rfl rfl rfl rfl (Nat.le_of_ble_eq_true rfl) d_M_changed_320 (fun H locs hP hD hS => ?_)
    exact J323 v1 v2 v4 z28 hf _ _ _ hl hP hD hS
  have J300 : ∀ (v1 : Int32) (v2 : Int32) (v4 : Int32) (rg : Nat → Int32), mo_changed_j300 v1 v2 v4 rg = some z → ∀ (H : Heap) (locs : List Loc) (ls : Array Slot), lv_has ls 5 [(0, .ref h0), (1, .int v1), (2, .int v2), (4, .int v4)] → va_P D cz_all (mw_ h0 h1 h2 h3 h4 h5 h6 h7 cI me rg so sv tl su qu wa ru pe re pn lo se pa sp iv) H → va_D A (mw_ h0 h1 h2 h3 h4 h5 h6 h7 cI me rg so sv tl su qu wa ru pe re pn lo se pa sp iv) → va_S A s.heap H locs → W p l e rm_m_changed s m ([.ref h0, .int x1, .int x2] : List Value).toArray below meth c H locs 0 0 (MQ below (qs_i D (ty_ cI cT) (mw_ h0 h1 h2 h3 h4 h5 h6 h7 cI me z.2 so sv tl su qu wa ru pe re pn lo se pa sp iv) z.1 A) ([.ref h0, .int x1, .int x2] : List Value).toArray s 0 0 A) (F0 m 300 ls []) := by
    intro v1 v2 v4 rg hf H locs ls hl hP hD hS
    unfold mo_changed_j300 at hf
    refine lv_iload_n hx hb d_M_changed_300 rfl (lv_at hl 1 rfl) ?_
    refine lv_bipush (v := (10 : Int32)) hx hb d_M_changed_301 (by decide) ?_
    refine lv_icmp_ne (tgt := 323) hx hb d_M_changed_303 (by decide) (fun hc => ?_) (fun hc => ?_)
    · replace hf := (if_neg hc).symm.trans hf
      exact J323 v1 v2 v4 rg hf _ _ _ hl hP hD hS
    · replace hf := (if_pos hc).symm.trans hf
      refine lv_aload_n hx hb d_M_changed_306 rfl (lv_at hl 0 rfl) ?_
      refine lv_iconst (v := (2 : Int32)) hx hb d_M_changed_307 (by decide) ?_
      refine lv_iload_n hx hb d_M_changed_308 rfl (lv_at hl 2 rfl) ?_
      refine lv_sipush (v := (128 : Int32)) hx hb d_M_changed_309 (by decide) ?_
      refine lv_icmp_ne (tgt := 319) hx hb d_M_changed_312 (by decide) (fun hc => ?_) (fun hc => ?_)
      · replace hf := (if_neg hc).symm.trans hf
        refine lv_iconst (v := (0 : Int32)) hx hb d_M_changed_319 (by decide) ?_
        exact J320 v1 v2 v4 false rg hf _ _ _ hl hP hD hS
      · replace hf := (if_pos hc).symm.trans hf
        refine lv_iconst (v := (1 : Int32)) hx hb d_M_changed_315 (by decide) ?_
        refine lv_goto (tgt := 320) hx hb d_M_changed_316 (by decide) ?_
        exact J320 v1 v2 v4 true rg hf _ _ _ hl hP hD hS
  have J297 : ∀ (v1 : Int32) (v2 : Int32) (v4 : Int32) (s0 : Bool) (rg : Nat → Int32), mo_changed_j297 v1 v2 v4 s0 rg = some z → ∀ (H : Heap) (locs : List Loc) (ls : Array Slot), lv_has ls 5 [(0, .ref h0), (1, .int v1), (2, .int v2), (4, .int v4)] → va_P D cz_all (mw_ h0 h1 h2 h3 h4 h5 h6 h7 cI me rg so sv tl su qu wa ru pe re pn lo se pa sp iv) H → va_D A (mw_ h0 h1 h2 h3 h4 h5 h6 h7 cI me rg so sv tl su qu wa ru pe re pn lo se pa sp iv) → va_S A s.heap H locs → W p l e rm_m_changed s m ([.ref h0, .int x1, .int x2] : List Value).toArray below meth c H locs 0 0 (MQ below (qs_i D (ty_ cI cT) (mw_ h0 h1 h2 h3 h4 h5 h6 h7 cI me z.2 so sv tl su qu wa ru pe re pn lo se pa sp iv) z.1 A) ([.ref h0, .int x1, .int x2] : List Value).toArray s 0 0 A) (F0 m 297 ls [.int (bz_i s0), .int (2 : Int32), .ref h0]) := by
    intro v1 v2 v4 s0 rg hf H locs ls hl hP hD hS
    unfold mo_changed_j297 at hf
    obtain ⟨z29, hz29, hf⟩ := op_b hf
    refine cl_v X cw_M_62 hK hP hD hS hA hl (c_mo_mark hz29) ⟨rfl, rfl, Nat.le_of_ble_eq_true rfl, Nat.le_of_ble_eq_true rfl⟩ 0 rfl rfl rfl rfl rfl (Nat.le_of_ble_eq_true rfl) d_M_changed_297 (fun H locs hP hD hS => ?_)
    exact J300 v1 v2 v4 z29 hf _ _ _ hl hP hD hS
  have J273 : ∀ (v1 : Int32) (v2 : Int32) (v4 : Int32) (s0 : Bool) (rg : Nat → Int32), mo_changed_j273 v1 v2 v4 s0 rg = some z → ∀ (H : Heap) (locs : List Loc) (ls : Array Slot), lv_has ls 5 [(0, .ref h0), (1, .int v1), (2, .int v2), (4, .int v4)] → va_P D cz_all (mw_ h0 h1 h2 h3 h4 h5 h6 h7 cI me rg so sv tl su qu wa ru pe re pn lo se pa sp iv) H → va_D A (mw_ h0 h1 h2 h3 h4 h5 h6 h7 cI me rg so sv tl su qu wa ru pe re pn lo se pa sp iv) → va_S A s.heap H locs → W p l e rm_m_changed s m ([.ref h0, .int x1, .int x2] : List Value).toArray below meth c H locs 0 0 (MQ below (qs_i D (ty_ cI cT) (mw_ h0 h1 h2 h3 h4 h5 h6 h7 cI me z.2 so sv tl su qu wa ru pe re pn lo se pa sp iv) z.1 A) ([.ref h0, .int x1, .int x2] : List Value).toArray s 0 0 A) (F0 m 273 ls [.int (bz_i s0), .int (1 : Int32), .ref h0]) := by
    intro v1 v2 v4 s0 rg hf H locs ls hl hP hD hS
    unfold mo_changed_j273 at hf
    obtain ⟨z30, hz30, hf⟩ := op_b hf
    refine cl_v X cw_M_62 hK hP hD hS hA hl (c_mo_mark hz30) ⟨rfl, rfl, Nat.le_of_ble_eq_true rfl, Nat.le_of_ble_eq_true rfl⟩ 0 rfl rfl rfl rfl rfl (Nat.le_of_ble_eq_true rfl) d_M_changed_273 (fun H locs hP hD hS => ?_)
    refine lv_aload_n hx hb d_M_changed_276 rfl (lv_at hl 0 rfl) ?_
    refine lv_iconst (v := (2 : Int32)) hx hb d_M_changed_277 (by decide) ?_
    refine lv_aload_n hx hb d_M_changed_278 rfl (lv_at hl 0 rfl) ?_
    refine lv_bipush (v := (8 : Int32)) hx hb d_M_changed_279 (by decide) ?_
    obtain ⟨z31, hz31, hf⟩ := op_b hf
    refine cl_i X cw_M_101 hK hP hD hS hA hl (c_mo_flag hz31) ⟨rfl, rfl, Nat.le_of_ble_eq_true rfl, Nat.le_of_ble_eq_true rfl⟩ 0 rfl rfl rfl rfl rfl (Nat.le_of_ble_eq_true rfl) d_M_changed_281 (fun H locs hP hD hS => ?_)
    refine lv_aload_n hx hb d_M_changed_284 rfl (lv_at hl 0 rfl) ?_
    refine lv_iconst (v := (1 : Int32)) hx hb d_M_changed_285 (by decide) ?_
    obtain ⟨z32, hz32, hf⟩ := op_b hf
    refine cl_i X cw_M_101 hK hP hD hS hA hl (c_mo_flag hz32) ⟨rfl, rfl, Nat.le_of_ble_eq_true rfl, Nat.le_of_ble_eq_true rfl⟩ 0 rfl rfl rfl rfl rfl (Nat.le_of_ble_eq_true rfl) d_M_changed_286 (fun H locs hP hD hS => ?_)
    refine lv_icmp_eq (tgt := 296) hx hb d_M_changed_289 (by decide) (fun hc => ?_) (fun hc => ?_)
    · replace hf := (if_pos hc).symm.trans hf
      refine lv_iconst (v := (0 : Int32)) hx hb d_M_changed_296 (by decide) ?_
      exact J297 v1 v2 v4 false z30 hf _ _ _ hl hP hD hS
    · replace hf := (if_neg hc).symm.trans hf
      refine lv_iconst (v := (1 : Int32)) hx hb d_M_changed_292 (by decide) ?_
      refine lv_goto (tgt := 297) hx hb d_M_changed_293 (by decide) ?_
      exact J297 v1 v2 v4 true z30 hf _ _ _ hl hP hD hS
  have J260 : ∀ (v1 : Int32) (v2 : Int32) (v4 : Int32) (rg : Nat → Int32), mo_changed_j260 v1 v2 v4 rg = some z → ∀ (H : Heap) (locs : List Loc) (ls : Array Slot), lv_has ls 5 [(0, .ref h0), (1, .int v1), (2, .int v2), (4, .int v4)] → va_P D cz_all (mw_ h0 h1 h2 h3 h4 h5 h6 h7 cI me rg so sv tl su qu wa ru pe re pn lo se pa sp iv) H → va_D A (mw_ h0 h1 h2 h3 h4 h5 h6 h7 cI me rg so sv tl su qu wa ru pe re pn lo se pa sp iv) → va_S A s.heap H locs → W p l e rm_m_changed s m ([.ref h0, .int x1, .int x2] : List Value).toArray below meth c H locs 0 0 (MQ below (qs_i D (ty_ cI cT) (mw_ h0 h1 h2 h3 h4 h5 h6 h7 cI me z.2 so sv tl su qu wa ru pe re pn lo se pa sp iv) z.1 A) ([.ref h0, .int x1, .int x2] : List Value).toArray s 0 0 A) (F0 m 260 ls []) := by
    intro v1 v2 v4 rg hf H locs ls hl hP hD hS
    unfold mo_changed_j260 at hf
    refine lv_aload_n hx hb d_M_changed_260 rfl (lv_at hl 0 rfl) ?_
    refine lv_iconst (v := (1 : Int32)) hx hb d_M_changed_261 (by decide) ?_
    refine lv_iload_n hx hb d_M_changed_262 rfl (lv_at hl 2 rfl) ?_
    refine lv_bipush (v := (127 : Int32)) hx hb d_M_changed_263 (by decide) ?_
    refine lv_icmp_le (tgt := 272) hx hb d_M_changed_265 (by decide) (fun hc => ?_) (fun hc => ?_)
    · replace hf := (if_pos hc).symm.trans hf
      refine lv_iconst (v := (0 : Int32)) hx hb d_M_changed_272 (by decide) ?_
      exact J273 v1 v2 v4 false rg hf _ _ _ hl hP hD hS
    · replace hf := (if_neg hc).symm.trans hf
      refine lv_iconst (v := (1 : Int32)) hx hb d_M_changed_268 (by decide) ?_
      refine lv_goto (tgt := 273) hx hb d_M_changed_269 (by decide) ?_
      exact J273 v1 v2 v4 true rg hf _ _ _ hl hP hD hS
  have J248 : ∀ (v1 : Int32) (v2 : Int32) (v4 : Int32) (rg : Nat → Int32), mo_changed_j248 v1 v2 v4 rg = some z → ∀ (H : Heap) (locs : List Loc) (ls : Array Slot), lv_has ls 5 [(0, .ref h0), (1, .int v1), (2, .int v2), (4, .int v4)] → va_P D cz_all (mw_ h0 h1 h2 h3 h4 h5 h6 h7 cI me rg so sv tl su qu wa ru pe re pn lo se pa sp iv) H → va_D A (mw_ h0 h1 h2 h3 h4 h5 h6 h7 cI me rg so sv tl su qu wa ru pe re pn lo se pa sp iv) → va_S A s.heap H locs → W p l e rm_m_changed s m ([.ref h0, .int x1, .int x2] : List Value).toArray below meth c H locs 0 0 (MQ below (qs_i D (ty_ cI cT) (mw_ h0 h1 h2 h3 h4 h5 h6 h7 cI me z.2 so sv tl su qu wa ru pe re pn lo se pa sp iv) z.1 A) ([.ref h0, .int x1, .int x2] : List Value).toArray s 0 0 A) (F0 m 248 ls []) := by
    intro v1 v2 v4 rg hf H locs ls hl hP hD hS
    unfold mo_changed_j248 at hf
    refine lv_iload_n hx hb d_M_changed_248 rfl (lv_at hl 1 rfl) ?_
    refine lv_bipush (v := (8 : Int32)) hx hb d_M_changed_249 (by decide) ?_
    refine lv_icmp_eq (tgt := 260) hx hb d_M_changed_251 (by decide) (fun hc => ?_) (fun hc => ?_)
    · replace hf := (if_pos hc).symm.trans hf
      exact J260 v1 v2 v4 rg hf _ _ _ hl hP hD hS
    · replace hf := (if_neg hc).symm.trans hf
      refine lv_iload_n hx hb d_M_changed_254 rfl (lv_at hl 1 rfl) ?_
      refine lv_bipush (v := (9 : Int32)) hx hb d_M_changed_255 (by decide) ?_
      refine lv_icmp_ne (tgt := 300) hx hb d_M_changed_257 (by decide) (fun hc => ?_) (fun hc => ?_)
      · replace hf := (if_neg hc).symm.trans hf
        exact J300 v1 v2 v4 rg hf _ _ _ hl hP hD hS
      · replace hf := (if_pos hc).symm.trans hf
        exact J260 v1 v2 v4 rg hf _ _ _ hl hP hD hS
  have J245 : ∀ (v1 : Int32) (v2 : Int32) (v4 : Int32) (s0 : Bool) (rg : Nat → Int32), mo_changed_j245 v1 v2 v4 s0 rg = some z → ∀ (H : Heap) (locs : List Loc) (ls : Array Slot), lv_has ls 5 [(0, .ref h0), (1, .int v1), (2, .int v2), (4, .int v4)] → va_P D cz_all (mw_ h0 h1 h2 h3 h4 h5 h6 h7 cI me rg so sv tl su qu wa ru pe re pn lo se pa sp iv) H → va_D A (mw_ h0 h1 h2 h3 h4 h5 h6 h7 cI me rg so sv tl su qu wa ru pe re pn lo se pa sp iv) → va_S A s.heap H locs → W p l e rm_m_changed s m ([.ref h0, .int x1, .int x2] : List Value).toArray below meth c H locs 0 0 (MQ below (qs_i D (ty_ cI cT) (mw_ h0 h1 h2 h3 h4 h5 h6 h7 cI me z.2 so sv tl su qu wa ru pe re pn lo se pa sp iv) z.1 A) ([.ref h0, .int x1, .int x2] : List Value).toArray s 0 0 A) (F0 m 245 ls [.int (bz_i s0), .int (1 : Int32), .ref h0]) := by
    intro v1 v2 v4 s0 rg hf H locs ls hl hP hD hS
    unfold mo_changed_j245 at hf
    obtain ⟨z33, hz33, hf⟩ := op_b hf
    refine cl_v X cw_M_62 hK hP hD hS hA hl (c_mo_mark hz33) ⟨rfl, rfl, Nat.le_of_ble_eq_true rfl, Nat.le_of_ble_eq_true rfl⟩ 0 rfl rfl rfl rfl rfl (Nat.le_of_ble_eq_true rfl) d_M_changed_245 (fun H locs hP hD hS => ?_)
    exact J248 v1 v2 v4 z33 hf _ _ _ hl hP hD hS
  have J220 : ∀ (v1 : Int32) (v2 : Int32) (v4 : Int32) (rg : Nat → Int32), mo_changed_j220 v1 v2 v4 rg = some z → ∀ (H : Heap) (locs : List Loc) (ls : Array Slot), lv_has ls 5 [(0, .ref h0), (1, .int v1), (2, .int v2), (4, .int v4)] → va_P D cz_all (mw_ h0 h1 h2 h3 h4 h5 h6 h7 cI me rg so sv tl su qu wa ru pe re pn lo se pa sp iv) H → va_D A (mw_ h0 h1 h2 h3 h4 h5 h6 h7 cI me rg so sv tl su qu wa ru pe re pn lo se pa sp iv) → va_S A s.heap H locs → W p l e rm_m_changed s m ([.ref h0, .int x1, .int x2] : List Value).toArray below meth c H locs 0 0 (MQ below (qs_i D (ty_ cI cT) (mw_ h0 h1 h2 h3 h4 h5 h6 h7 cI me z.2 so sv tl su qu wa ru pe re pn lo se pa sp iv) z.1 A) ([.ref h0, .int x1, .int x2] : List Value).toArray s 0 0 A) (F0 m 220 ls []) := by
    intro v1 v2 v4 rg hf H locs ls hl hP hD hS
    unfold mo_changed_j220 at hf
    refine lv_iload_n hx hb d_M_changed_220 rfl (lv_at hl 1 rfl) ?_
    refine lv_iconst (v := (4 : Int32)) hx hb d_M_changed_221 (by decide) ?_
    refine lv_icmp_lt (tgt := 248) hx hb d_M_changed_222 (by decide) (fun hc => ?_) (fun hc => ?_)
    · replace hf := (if_pos hc).symm.trans hf
      exact J248 v1 v2 v4 rg hf _ _ _ hl hP hD hS
    · replace hf := (if_neg hc).symm.trans hf
      refine lv_iload_n hx hb d_M_changed_225 rfl (lv_at hl 1 rfl) ?_
      refine lv_bipush (v := (7 : Int32)) hx hb d_M_changed_226 (by decide) ?_
      refine lv_icmp_gt (tgt := 248) hx hb d_M_changed_228 (by decide) (fun hc => ?_) (fun hc => ?_)
      · replace hf := (if_pos hc).symm.trans hf
        exact J248 v1 v2 v4 rg hf _ _ _ hl hP hD hS
      · replace hf := (if_neg hc).symm.trans hf
        refine lv_aload_n hx hb d_M_changed_231 rfl (lv_at hl 0 rfl) ?_
        refine lv_iconst (v := (1 : Int32)) hx hb d_M_changed_232 (by decide) ?_
        refine lv_iload_n hx hb d_M_changed_233 rfl (lv_at hl 2 rfl) ?_
        refine lv_iconst (v := (1 : Int32)) hx hb d_M_changed_234 (by decide) ?_
        refine lv_iand hx hb d_M_changed_235 ?_
        refine lv_iconst (v := (1 : Int32)) hx hb d_M_changed_236 (by decide) ?_
        refine lv_icmp_ne (tgt := 244) hx hb d_M_changed_237 (by decide) (fun hc => ?_) (fun hc => ?_)
        · replace hf := (if_neg hc).symm.trans hf
          refine lv_iconst (v := (0 : Int32)) hx hb d_M_changed_244 (by decide) ?_
          exact J245 v1 v2 v4 false rg hf _ _ _ hl hP hD hS
        · replace hf := (if_pos hc).symm.trans hf
          refine lv_iconst (v := (1 : Int32)) hx hb d_M_changed_240 (by decide) ?_
          refine lv_goto (tgt := 245) hx hb d_M_changed_241 (by decide) ?_
          exact J245 v1 v2 v4 true rg hf _ _ _ hl hP hD hS
  have J208 : ∀ (v1 : Int32) (v2 : Int32) (v4 : Int32) (rg : Nat → Int32), mo_changed_j208 v1 v2 v4 rg = some z → ∀ (H : Heap) (locs : List Loc) (ls : Array Slot), lv_has ls 5 [(0, .ref h0), (1, .int v1), (2, .int v2), (4, .int v4)] → va_P D cz_all (mw_ h0 h1 h2 h3 h4 h5 h6 h7 cI me rg so sv tl su qu wa ru pe re pn lo se pa sp iv) H → va_D A (mw_ h0 h1 h2 h3 h4 h5 h6 h7 cI me rg so sv tl su qu wa ru pe re pn lo se pa sp iv) → va_S A s.heap H locs → W p l e rm_m_changed s m ([.ref h0, .int x1, .int x2] : List Value).toArray below meth c H locs 0 0 (MQ below (qs_i D (ty_ cI cT) (mw_ h0 h1 h2 h3 h4 h5 h6 h7 cI me z.2 so sv tl su qu wa ru pe re pn lo se pa sp iv) z.1 A) ([.ref h0, .int x1, .int x2] : List Value).toArray s 0 0 A) (F0 m 208 ls []) := by
    intro v1 v2 v4 rg hf H locs ls hl hP hD hS
    unfold mo_changed_j208 at hf
    refine lv_iload_n hx hb d_M_changed_208 rfl (lv_at hl 1 rfl) ?_
    refine lv_bipush (v := (15 : Int32)) hx hb d_M_changed_209 (by decide) ?_
    refine lv_icmp_ne (tgt := 220) hx hb d_M_changed_211 (by decide) (fun hc => ?_) (fun hc => ?_)
    · replace hf := (if_neg hc).symm.trans hf
      exact J220 v1 v2 v4 rg hf _ _ _ hl hP hD hS
    · replace hf := (if_pos hc).symm.trans hf
      refine lv_aload_n hx hb d_M_changed_214 rfl (lv_at hl 0 rfl) ?_
      refine lv_iconst (v := (1 : Int32)) hx hb d_M_changed_215 (by decide) ?_
      refine lv_iconst (v := (0 : Int32)) hx hb d_M_changed_216 (by decide) ?_
      obtain ⟨z34, hz34, hf⟩ := op_b hf
      refine cl_v X cw_M_62 hK hP hD hS hA hl (c_mo_mark hz34) ⟨rfl, rfl, Nat.le_of_ble_eq_true rfl, Nat.le_of_ble_eq_true rfl⟩ 0 rfl rfl rfl rfl rfl (Nat.le_of_ble_eq_true rfl) d_M_changed_217 (fun H locs hP hD hS => ?_)
      exact J220 v1 v2 v4 z34 hf _ _ _ hl hP hD hS
  have J187 : ∀ (v1 : Int32) (v2 : Int32) (s0 : Int32) (rg : Nat → Int32), mo_changed_j187 v1 v2 s0 rg = some z → ∀ (H : Heap) (locs : List Loc) (ls : Array Slot), lv_has ls 5 [(0, .ref h0), (1, .int v1), (2, .int v2)] → va_P D cz_all (mw_ h0 h1 h2 h3 h4 h5 h6 h7 cI me rg so sv tl su qu wa ru pe re pn lo se pa sp iv) H → va_D A (mw_ h0 h1 h2 h3 h4 h5 h6 h7 cI me rg so sv tl su qu wa ru pe re pn lo se pa sp iv) → va_S A s.heap H locs → W p l e rm_m_changed s m ([.ref h0, .int x1, .int x2] : List Value).toArray below meth c H locs 0 0 (MQ below (qs_i D (ty_ cI cT) (mw_ h0 h1 h2 h3 h4 h5 h6 h7 cI me z.2 so sv tl su qu wa ru pe re pn lo se pa sp iv) z.1 A) ([.ref h0, .int x1, .int x2] : List Value).toArray s 0 0 A) (F0 m 187 ls [.int s0]) := by
    intro v1 v2 s0 rg hf H locs ls hl hP hD hS
    unfold mo_changed_j187 at hf
    refine lv_istore hx hb d_M_changed_187 hl (by decide) rfl (fun ls hl => ?_)
    have hl : lv_has ls 5 [(4, .int s0), (0, .ref h0), (1, .int v1), (2, .int v2)] := hl
    refine lv_aload_n hx hb d_M_changed_189 rfl (lv_at hl 1 rfl) ?_
    refine lv_iload hx hb d_M_changed_190 (lv_at hl 0 rfl) ?_
    refine lv_bipush (v := (8 : Int32)) hx hb d_M_changed_192 (by decide) ?_
    obtain ⟨z35, hz35, hf⟩ := op_b hf
    refine cl_v X cw_M_66 hK hP hD hS hA hl (c_mo_sign hz35) ⟨rfl, rfl, Nat.le_of_ble_eq_true rfl, Nat.le_of_ble_eq_true rfl⟩ 0 rfl rfl rfl rfl rfl (Nat.le_of_ble_eq_true rfl) d_M_changed_194 (fun H locs hP hD hS => ?_)
    refine lv_iload_n hx hb d_M_changed_197 rfl (lv_at hl 2 rfl) ?_
    refine lv_iconst (v := (3 : Int32)) hx hb d_M_changed_198 (by decide) ?_
    refine lv_icmp_ne (tgt := 208) hx hb d_M_changed_199 (by decide) (fun hc => ?_) (fun hc => ?_)
    · replace hf := (if_neg hc).symm.trans hf
      exact J208 v1 v2 s0 z35 hf _ _ _ (lv_sub hl [1, 2, 3, 0] rfl) hP hD hS
    · replace hf := (if_pos hc).symm.trans hf
      refine lv_aload_n hx hb d_M_changed_202 rfl (lv_at hl 1 rfl) ?_
      refine lv_iconst (v := (1 : Int32)) hx hb d_M_changed_203 (by decide) ?_
      refine lv_iconst (v := (1 : Int32)) hx hb d_M_changed_204 (by decide) ?_
      obtain ⟨z36, hz36, hf⟩ := op_b hf
      refine cl_v X cw_M_62 hK hP hD hS hA hl (c_mo_mark hz36) ⟨rfl, rfl, Nat.le_of_ble_eq_true rfl, Nat.le_of_ble_eq_true rfl⟩ 0 rfl rfl rfl rfl rfl (Nat.le_of_ble_eq_true rfl) d_M_changed_205 (fun H locs hP hD hS => ?_)
      exact J208 v1 v2 s0 z36 hf _ _ _ (lv_sub hl [1, 2, 3, 0] rfl) hP hD hS
  have J13 : ∀ (v1 : Int32) (v2 : Int32) (s0 : Bool) (rg : Nat → Int32), mo_changed_j13 v1 v2 s0 rg = some z → ∀ (H : Heap) (locs : List Loc) (ls : Array Slot), lv_has ls 5 [(0, .ref h0), (1, .int v1), (2, .int v2)] → va_P D cz_all (mw_ h0 h1 h2 h3 h4 h5 h6 h7 cI me rg so sv tl su qu wa ru pe re pn lo se pa sp iv) H → va_D A (mw_ h0 h1 h2 h3 h4 h5 h6 h7 cI me rg so sv tl su qu wa ru pe re pn lo se pa sp iv) → va_S A s.heap H locs → W p l e rm_m_changed s m ([.ref h0, .int x1, .int x2] : List Value).toArray below meth c H locs 0 0 (MQ below (qs_i D (ty_ cI cT) (mw_ h0 h1 h2 h3 h4 h5 h6 h7 cI me z.2 so sv tl su qu wa ru pe re pn lo se pa sp iv) z.1 A) ([.ref h0, .int x1, .int x2] : List Value).toArray s 0 0 A) (F0 m 13 ls [.int (bz_i s0)]) := by
    intro v1 v2 s0 rg hf H locs ls hl hP hD hS
    unfold mo_changed_j13 at hf
    refine lv_istore_n hx hb d_M_changed_13 rfl hl (by decide) rfl (fun ls hl => ?_)
    have hl : lv_has ls 5 [(3, .int (bz_i s0)), (0, .ref h0), (1, .int v1), (2, .int v2)] := hl
    refine lv_iload_n hx hb d_M_changed_14 rfl (lv_at hl 2 rfl) ?_
    refine lv_if_ne (tgt := 30) hx hb d_M_changed_15 (by decide) (fun hc => ?_) (fun hc => ?_)
    · replace hf := (if_neg hc).symm.trans hf
      refine lv_iload_n hx hb d_M_changed_30 rfl (lv_at hl 2 rfl) ?_
      refine lv_iconst (v := (3 : Int32)) hx hb d_M_changed_31 (by decide) ?_
      refine lv_icmp_ne (tgt := 49) hx hb d_M_changed_32 (by decide) (fun hc => ?_) (fun hc => ?_)
      · replace hf := (if_neg hc).symm.trans hf
        refine lv_iload_n hx hb d_M_changed_49 rfl (lv_at hl 2 rfl) ?_
        refine lv_iconst (v := (4 : Int32)) hx hb d_M_changed_50 (by decide) ?_
        refine lv_icmp_ne (tgt := 60) hx hb d_M_changed_51 (by decide) (fun hc => ?_) (fun hc => ?_)
        · replace hf := (if_neg hc).symm.trans hf
          refine lv_iload_n hx hb d_M_changed_60 rfl (lv_at hl 2 rfl) ?_
          refine lv_bipush (v := (6 : Int32)) hx hb d_M_changed_61 (by decide) ?_
          refine lv_icmp_ne (tgt := 78) hx hb d_M_changed_63 (by decide) (fun hc => ?_) (fun hc => ?_)
          · replace hf := (if_neg hc).symm.trans hf
            refine lv_iload_n hx hb d_M_changed_78 rfl (lv_at hl 2 rfl) ?_
            refine lv_bipush (v := (7 : Int32)) hx hb d_M_changed_79 (by decide) ?_
            refine lv_icmp_ne (tgt := 96) hx hb d_M_changed_81 (by decide) (fun hc => ?_) (fun hc => ?_)
            · replace hf := (if_neg hc).symm.trans hf
              refine lv_iload_n hx hb d_M_changed_96 rfl (lv_at hl 2 rfl) ?_
              refine lv_bipush (v := (8 : Int32)) hx hb d_M_changed_97 (by decide) ?_
              refine lv_icmp_ne (tgt := 112) hx hb d_M_changed_99 (by decide) (fun hc => ?_) (fun hc => ?_)
              · replace hf := (if_neg hc).symm.trans hf
                refine lv_iload_n hx hb d_M_changed_112 rfl (lv_at hl 2 rfl) ?_
                refine lv_bipush (v := (9 : Int32)) hx hb d_M_changed_113 (by decide) ?_
                refine lv_icmp_ne (tgt := 130) hx hb d_M_changed_115 (by decide) (fun hc => ?_) (fun hc => ?_)
                · replace hf := (if_neg hc).symm.trans hf
                  refine lv_iload_n hx hb d_M_changed_130 rfl (lv_at hl 2 rfl) ?_
                  refine lv_bipush (v := (10 : Int32)) hx hb d_M_changed_131 (by decide) ?_
                  refine lv_icmp_ne (tgt := 148) hx hb d_M_changed_133 (by decide) (fun hc => ?_) (fun hc => ?_)
                  · replace hf := (if_neg hc).symm.trans hf
                    refine lv_iload_n hx hb d_M_changed_148 rfl (lv_at hl 2 rfl) ?_
                    refine lv_bipush (v := (12 : Int32)) hx hb d_M_changed_149 (by decide) ?_
                    refine lv_icmp_ne (tgt := 164) hx hb d_M_changed_151 (by decide) (fun hc => ?_) (fun hc => ?_)
                    · replace hf := (if_neg hc).symm.trans hf
                      refine lv_iload_n hx hb d_M_changed_164 rfl (lv_at hl 2 rfl) ?_
                      refine lv_bipush (v := (13 : Int32)) hx hb d_M_changed_165 (by decide) ?_
                      refine lv_icmp_ne (tgt := 180) hx hb d_M_changed_167 (by decide) (fun hc => ?_) (fun hc => ?_)
                      · replace hf := (if_neg hc).symm.trans hf
                        refine lv_aload_n hx hb d_M_changed_180 rfl (lv_at hl 1 rfl) ?_
                        refine lv_iconst (v := (0 : Int32)) hx hb d_M_changed_181 (by decide) ?_
                        refine lv_bipush (v := (8 : Int32)) hx hb d_M_changed_182 (by decide) ?_
                        obtain ⟨z37, hz37, hf⟩ := op_b hf
                        refine cl_i X cw_M_95 hK hP hD hS hA hl (c_mo_plain hz37) ⟨rfl, rfl, Nat.le_of_ble_eq_true rfl, Nat.le_of_ble_eq_true rfl⟩ 0 rfl rfl rfl rfl rfl (Nat.le_of_ble_eq_true rfl) d_M_changed_184 (fun H locs hP hD hS => ?_)
                        exact J187 v1 v2 z37.1 z37.2 hf _ _ _ (lv_sub hl [1, 2, 3] rfl) hP hD hS
                      · replace hf := (if_pos hc).symm.trans hf
                        refine lv_aload_n hx hb d_M_changed_170 rfl (lv_at hl 1 rfl) ?_
                        refine lv_iload_n hx hb d_M_changed_171 rfl (lv_at hl 3 rfl) ?_
                        refine lv_bipush (v := (8 : Int32)) hx hb d_M_changed_172 (by decide) ?_
                        obtain ⟨z38, hz38, hf⟩ := op_b hf
                        refine cl_i X cw_M_95 hK hP hD hS hA hl (c_mo_plain hz38) ⟨rfl, rfl, Nat.le_of_ble_eq_true rfl, Nat.le_of_ble_eq_true rfl⟩ 0 rfl rfl rfl rfl rfl (Nat.le_of_ble_eq_true rfl) d_M_changed_174 (fun H locs hP hD hS => ?_)
                        refine lv_goto (tgt := 187) hx hb d_M_changed_177 (by decide) ?_
                        exact J187 v1 v2 z38.1 z38.2 hf _ _ _ (lv_sub hl [1, 2, 3] rfl) hP hD hS
                    · replace hf := (if_pos hc).symm.trans hf
                      refine lv_iload_n hx hb d_M_changed_154 rfl (lv_at hl 3 rfl) ?_
                      refine lv_iconst (v := (1 : Int32)) hx hb d_M_changed_155 (by decide) ?_
                      refine lv_iadd hx hb d_M_changed_156 ?_
                      refine lv_sipush (v := (255 : Int32)) hx hb d_M_changed_157 (by decide) ?_
                      refine lv_iand hx hb d_M_changed_160 ?_
                      refine lv_goto (tgt := 187) hx hb d_M_changed_161 (by decide) ?_
                      exact J187 v1 v2 ((v2 + (1 : Int32)) &&& (255 : Int32)) rg hf _ _ _ (lv_sub hl [1, 2, 3] rfl) hP hD hS
                  · replace hf := (if_pos hc).symm.trans hf
                    refine lv_iload_n hx hb d_M_changed_136 rfl (lv_at hl 3 rfl) ?_
                    refine lv_sipush (v := (255 : Int32)) hx hb d_M_changed_137 (by decide) ?_
                    refine lv_iadd hx hb d_M_changed_140 ?_
                    refine lv_sipush (v := (255 : Int32)) hx hb d_M_changed_141 (by decide) ?_
                    refine lv_iand hx hb d_M_changed_144 ?_
                    refine lv_goto (tgt := 187) hx hb d_M_changed_145 (by decide) ?_
                    exact J187 v1 v2 ((v2 + (255 : Int32)) &&& (255 : Int32)) rg hf _ _ _ (lv_sub hl [1, 2, 3] rfl) hP hD hS
                · replace hf := (if_pos hc).symm.trans hf
                  refine lv_iconst (v := (2 : Int32)) hx hb d_M_changed_118 (by decide) ?_
                  refine lv_iload_n hx hb d_M_changed_119 rfl (lv_at hl 3 rfl) ?_
                  refine lv_imul hx hb d_M_changed_120 ?_
                  refine lv_sipush (v := (255 : Int32)) hx hb d_M_changed_121 (by decide) ?_
                  refine lv_iand hx hb d_M_changed_124 ?_
                  refine lv_iload_n hx hb d_M_changed_125 rfl (lv_at hl 0 rfl) ?_
                  refine lv_iadd hx hb d_M_changed_126 ?_
                  refine lv_goto (tgt := 187) hx hb d_M_changed_127 (by decide) ?_
                  exact J187 v1 v2 ((((2 : Int32) * v2) &&& (255 : Int32)) + (bz_i s0)) rg hf _ _ _ (lv_sub hl [1, 2, 3] rfl) hP hD hS
              · replace hf := (if_pos hc).symm.trans hf
                refine lv_iconst (v := (2 : Int32)) hx hb d_M_changed_102 (by decide) ?_
                refine lv_iload_n hx hb d_M_changed_103 rfl (lv_at hl 3 rfl) ?_
                refine lv_imul hx hb d_M_changed_104 ?_
                refine lv_sipush (v := (255 : Int32)) hx hb d_M_changed_105 (by decide) ?_
                refine lv_iand hx hb d_M_changed_108 ?_
                refine lv_goto (tgt := 187) hx hb d_M_changed_109 (by decide) ?_
                exact J187 v1 v2 (((2 : Int32) * v2) &&& (255 : Int32)) rg hf _ _ _ (lv_sub hl [1, 2, 3] rfl) hP hD hS
            · replace hf := (if_pos hc).symm.trans hf
              refine lv_iload_n hx hb d_M_changed_84 rfl (lv_at hl 3 rfl) ?_
              refine lv_iconst (v := (2 : Int32)) hx hb d_M_changed_85 (by decide) ?_
              refine lv_idiv hx hb d_M_changed_86 (by decide) ?_
              refine lv_iload_n hx hb d_M_changed_87 rfl (lv_at hl 3 rfl) ?_
              refine lv_sipush (v := (128 : Int32)) hx hb d_M_changed_88 (by decide) ?_
              refine lv_iand hx hb d_M_changed_91 ?_
              refine lv_iadd hx hb d_M_changed_92 ?_
              refine lv_goto (tgt := 187) hx hb d_M_changed_93 (by decide) ?_
              exact J187 v1 v2 ((v2 / (2 : Int32)) + (v2 &&& (128 : Int32))) rg hf _ _ _ (lv_sub hl [1, 2, 3] rfl) hP hD hS
          · replace hf := (if_pos hc).symm.trans hf
            refine lv_iload_n hx hb d_M_changed_66 rfl (lv_at hl 3 rfl) ?_
            refine lv_iconst (v := (2 : Int32)) hx hb d_M_changed_67 (by decide) ?_
            refine lv_idiv hx hb d_M_changed_68 (by decide) ?_
            refine lv_sipush (v := (128 : Int32)) hx hb d_M_changed_69 (by decide) ?_
            refine lv_iload_n hx hb d_M_changed_72 rfl (lv_at hl 0 rfl) ?_
            refine lv_imul hx hb d_M_changed_73 ?_
            refine lv_iadd hx hb d_M_changed_74 ?_
            refine lv_goto (tgt := 187) hx hb d_M_changed_75 (by decide) ?_
            exact J187 v1 v2 ((v2 / (2 : Int32)) + ((128 : Int32) * (bz_i s0))) rg hf _ _ _ (lv_sub hl [1, 2, 3] rfl) hP hD hS
        · replace hf := (if_pos hc).symm.trans hf
          refine lv_iload_n hx hb d_M_changed_54 rfl (lv_at hl 3 rfl) ?_
          refine lv_iconst (v := (2 : Int32)) hx hb d_M_changed_55 (by decide) ?_
          refine lv_idiv hx hb d_M_changed_56 (by decide) ?_
          refine lv_goto (tgt := 187) hx hb d_M_changed_57 (by decide) ?_
          exact J187 v1 v2 (v2 / (2 : Int32)) rg hf _ _ _ (lv_sub hl [1, 2, 3] rfl) hP hD hS
      · replace hf := (if_pos hc).symm.trans hf
        refine lv_aload_n hx hb d_M_changed_35 rfl (lv_at hl 1 rfl) ?_
        refine lv_sipush (v := (255 : Int32)) hx hb d_M_changed_36 (by decide) ?_
        refine lv_iload_n hx hb d_M_changed_39 rfl (lv_at hl 3 rfl) ?_
        refine lv_isub hx hb d_M_changed_40 ?_
        refine lv_bipush (v := (8 : Int32)) hx hb d_M_changed_41 (by decide) ?_
        obtain ⟨z39, hz39, hf⟩ := op_b hf
        refine cl_i X cw_M_95 hK hP hD hS hA hl (c_mo_plain hz39) ⟨rfl, rfl, Nat.le_of_ble_eq_true rfl, Nat.le_of_ble_eq_true rfl⟩ 0 rfl rfl rfl rfl rfl (Nat.le_of_ble_eq_true rfl) d_M_changed_43 (fun H locs hP hD hS => ?_)
        refine lv_goto (tgt := 187) hx hb d_M_changed_46 (by decide) ?_
        exact J187 v1 v2 z39.1 z39.2 hf _ _ _ (lv_sub hl [1, 2, 3] rfl) hP hD hS
    · replace hf := (if_pos hc).symm.trans hf
      refine lv_aload_n hx hb d_M_changed_18 rfl (lv_at hl 1 rfl) ?_
      refine lv_iconst (v := (0 : Int32)) hx hb d_M_changed_19 (by decide) ?_
      refine lv_iload_n hx hb d_M_changed_20 rfl (lv_at hl 3 rfl) ?_
      refine lv_iconst (v := (0 : Int32)) hx hb d_M_changed_21 (by decide) ?_
      refine lv_bipush (v := (8 : Int32)) hx hb d_M_changed_22 (by decide) ?_
      obtain ⟨z40, hz40, hf⟩ := op_b hf
      refine cl_i X cw_M_105 hK hP hD hS hA hl (c_mo_difference hz40) ⟨rfl, rfl, Nat.le_of_ble_eq_true rfl, Nat.le_of_ble_eq_true rfl⟩ 0 rfl rfl rfl rfl rfl (Nat.le_of_ble_eq_true rfl) d_M_changed_24 (fun H locs hP hD hS => ?_)
      refine lv_goto (tgt := 187) hx hb d_M_changed_27 (by decide) ?_
      exact J187 v1 v2 z40.1 z40.2 hf _ _ _ (lv_sub hl [1, 2, 3] rfl) hP hD hS
  unfold mo_changed at hf
  refine lv_aload_n hx hb d_M_changed_0 rfl (lv_at hl 0 rfl) ?_
  refine lv_iconst (v := (1 : Int32)) hx hb d_M_changed_1 (by decide) ?_
  obtain ⟨z41, hz41, hf⟩ := op_b hf
  refine cl_i X cw_M_101 hK hP hD hS hA hl (c_mo_flag hz41) ⟨rfl, rfl, Nat.le_of_ble_eq_true rfl, Nat.le_of_ble_eq_true rfl⟩ 0 rfl rfl rfl rfl rfl (Nat.le_of_ble_eq_true rfl) d_M_changed_2 (fun H locs hP hD hS => ?_)
  refine lv_if_eq (tgt := 12) hx hb d_M_changed_5 (by decide) (fun hc => ?_) (fun hc => ?_)
  · replace hf := (if_pos hc).symm.trans hf
    refine lv_iconst (v := (0 : Int32)) hx hb d_M_changed_12 (by decide) ?_
    exact J13 x1 x2 false rg hf _ _ _ hl hP hD hS
  · replace hf := (if_neg hc).symm.trans hf
    refine lv_iconst (v := (1 : Int32)) hx hb d_M_changed_8 (by decide) ?_
    refine lv_goto (tgt := 13) hx hb d_M_changed_9 (by decide) ?_
    exact J13 x1 x2 true rg hf _ _ _ hl hP hD hS
set_option maxHeartbeats 4000000 in
set_option maxRecDepth 100000 in
theorem c_mo_lower {x1 : Int32} {z : (Nat → Int32) × (Nat → Int32) × Int32 × Bool} (hf : mo_lower x1 me rg sp iv = some z) : co_v l my_M_lower mb_M_lower 9 rm_m_lower D (ty_ cI cT) [.ref h0, .int x1] (mw_ h0 h1 h2 h3 h4 h5 h6 h7 cI me rg so sv tl su qu wa ru pe re pn lo se pa sp iv) (mw_ h0 h1 h2 h3 h4 h5 h6 h7 cI z.1 z.2.1 so sv tl su qu wa ru pe re pn lo se pa z.2.2.1 z.2.2.2) := by
  refine co_v_of (by decide) (Nat.le_of_ble_eq_true rfl) ?_
  intro p e s m below meth c A ls X hr hlk hK hP hD hS hA hl
  have hx := X.1
  have hb := X.2.1
  have hl : lv_has ls 9 [(0, .ref h0), (1, .int x1)] := hl
  have J187 : ∀ (v2 : Int32) (v6 : Int32) (s0 : Int32) (me : Nat → Int32) (rg : Nat → Int32) (sp : Int32) (iv : Bool), mo_lower_j187 v2 v6 s0 me rg sp iv = some z → ∀ (H : Heap) (locs : List Loc) (ls : Array Slot), lv_has ls 9 [(0, .ref h0), (2, .int v2), (6, .int v6)] → va_P D cz_all (mw_ h0 h1 h2 h3 h4 h5 h6 h7 cI me rg so sv tl su qu wa ru pe re pn lo se pa sp iv) H → va_D A (mw_ h0 h1 h2 h3 h4 h5 h6 h7 cI me rg so sv tl su qu wa ru pe re pn lo se pa sp iv) → va_S A s.heap H locs → W p l e rm_m_lower s m ([.ref h0, .int x1] : List Value).toArray below meth c H locs 0 0 (MQ below (qs_v D (ty_ cI cT) (mw_ h0 h1 h2 h3 h4 h5 h6 h7 cI z.1 z.2.1 so sv tl su qu wa ru pe re pn lo se pa z.2.2.1 z.2.2.2) A) ([.ref h0, .int x1] : List Value).toArray s 0 0 A) (F0 m 187 ls [.int s0]) := by
    intro v2 v6 s0 me rg sp iv hf H locs ls hl hP hD hS
    unfold mo_lower_j187 at hf
    refine lv_istore hx hb d_M_lower_187 hl (by decide) rfl (fun ls hl => ?_)
    have hl : lv_has ls 9 [(7, .int s0), (0, .ref h0), (2, .int v2), (6, .int v6)] := hl
    refine lv_aload_n hx hb d_M_lower_189 rfl (lv_at hl 1 rfl) ?_
    refine lv_iload_n hx hb d_M_lower_190 rfl (lv_at hl 2 rfl) ?_
    refine lv_iload hx hb d_M_lower_191 (lv_at hl 0 rfl) ?_
    obtain ⟨z18, hz18, hf⟩ := op_b hf
    refine cl_i X cw_M_128 hK hP hD hS hA hl (c_mo_changed hz18) ⟨rfl, rfl, Nat.le_of_ble_eq_true rfl, Nat.le_of_ble_eq_true rfl⟩ 0 rfl rfl rfl rfl rfl (Nat.le_of_ble_eq_true rfl) d_M_lower_193 (fun H locs hP hD hS => ?_)
    refine lv_istore hx hb d_M_lower_196 hl (by decide) rfl (fun ls hl => ?_)
    have hl : lv_has ls 9 [(8, .int z18.1), (7, .int s0), (0, .ref h0), (2, .int v2), (6, .int v6)] := hl
    refine lv_iload_n hx hb d_M_lower_198 rfl (lv_at hl 3 rfl) ?_
    refine lv_bipush (v := (13 : Int32)) hx hb d_M_lower_199 (by decide) ?_
    refine lv_icmp_eq (tgt := 213) hx hb d_M_lower_201 (by decide) (fun hc => ?_) (fun hc => ?_)
    · replace hf := (if_pos hc).symm.trans hf
      have hq := Option.some.inj hf
      subst hq
      exact rt_v X hr hlk hK hP hD hS d_M_lower_213
    · replace hf := (if_neg hc).symm.trans hf
      refine lv_aload_n hx hb d_M_lower_204 rfl (lv_at hl 2 rfl) ?_
      refine lv_iload hx hb d_M_lower_205 (lv_at hl 4 rfl) ?_
      refine lv_iload hx hb d_M_lower_207 (lv_at hl 0 rfl) ?_
      refine lv_iconst (v := (0 : Int32)) hx hb d_M_lower_209 (by decide) ?_
      obtain ⟨z19, hz19, hf⟩ := op_b hf
      refine cl_v X cw_M_58 hK hP hD hS hA hl (c_mo_store hz19) ⟨rfl, rfl, Nat.le_of_ble_eq_true rfl, Nat.le_of_ble_eq_true rfl⟩ 0 rfl rfl rfl rfl rfl (Nat.le_of_ble_eq_true rfl) d_M_lower_210 (fun H locs hP hD hS => ?_)
      have hq := Option.some.inj hf
      subst hq
      exact rt_v X hr hlk hK hP hD hS d_M_lower_213
  have J143 : ∀ (v2 : Int32) (s0 : Int32) (me : Nat → Int32) (rg : Nat → Int32) (sp : Int32) (iv : Bool), mo_lower_j143 v2 s0 me rg sp iv = some z → ∀ (H : Heap) (locs : List Loc) (ls : Array Slot), lv_has ls 9 [(0, .ref h0), (2, .int v2)] → va_P D cz_all (mw_ h0 h1 h2 h3 h4 h5 h6 h7 cI me rg so sv tl su qu wa ru pe re pn lo se pa sp iv) H → va_D A (mw_ h0 h1 h2 h3 h4 h5 h6 h7 cI me rg so sv tl su qu wa ru pe re pn lo se pa sp iv) → va_S A s.heap H locs → W p l e rm_m_lower s m ([.ref h0, .int x1] : List Value).toArray below meth c H locs 0 0 (MQ below (qs_v D (ty_ cI cT) (mw_ h0 h1 h2 h3 h4 h5 h6 h7 cI z.1 z.2.1 so sv tl su qu wa ru pe re pn lo se pa z.2.2.1 z.2.2.2) A) ([.ref h0, .int x1] : List Value).toArray s 0 0 A) (F0 m 143 ls [.int s0, .ref h0]) := by
    intro v2 s0 me rg sp iv hf H locs ls hl hP hD hS
    unfold mo_lower_j143 at hf
    obtain ⟨z20, hz20, hf⟩ := op_b hf
    refine cl_i X cw_M_92 hK hP hD hS hA hl (c_mo_address hz20) ⟨rfl, rfl, Nat.le_of_ble_eq_true rfl, Nat.le_of_ble_eq_true rfl⟩ 0 rfl rfl rfl rfl rfl (Nat.le_of_ble_eq_true rfl) d_M_lower_143 (fun H locs hP hD hS => ?_)
    refine lv_istore hx hb d_M_lower_146 hl (by decide) rfl (fun ls hl => ?_)
    have hl : lv_has ls 9 [(6, .int z20.1), (0, .ref h0), (2, .int v2)] := hl
    refine lv_aload_n hx hb d_M_lower_148 rfl (lv_at hl 1 rfl) ?_
    refine mg_invalid X hK hP d_M_lower_149 ?_
    refine lv_if_eq (tgt := 156) hx hb d_M_lower_152 (by decide) (fun hc => ?_) (fun hc => ?_)
    · replace hf := (if_pos hc).symm.trans hf
      refine lv_iload_n hx hb d_M_lower_156 rfl (lv_at hl 2 rfl) ?_
      refine lv_bipush (v := (14 : Int32)) hx hb d_M_lower_157 (by decide) ?_
      refine lv_icmp_ne (tgt := 170) hx hb d_M_lower_159 (by decide) (fun hc => ?_) (fun hc => ?_)
      · replace hf := (if_neg hc).symm.trans hf
        refine lv_iload_n hx hb d_M_lower_170 rfl (lv_at hl 2 rfl) ?_
        refine lv_bipush (v := (15 : Int32)) hx hb d_M_lower_171 (by decide) ?_
        refine lv_icmp_ne (tgt := 180) hx hb d_M_lower_173 (by decide) (fun hc => ?_) (fun hc => ?_)
        · replace hf := (if_neg hc).symm.trans hf
          refine lv_aload_n hx hb d_M_lower_180 rfl (lv_at hl 1 rfl) ?_
          refine lv_iload hx hb d_M_lower_181 (lv_at hl 0 rfl) ?_
          refine lv_iconst (v := (0 : Int32)) hx hb d_M_lower_183 (by decide) ?_
          obtain ⟨z21, hz21, hf⟩ := op_b hf
          refine cl_i X cw_M_47 hK hP hD hS hA hl (c_mo_load hz21) ⟨rfl, rfl, Nat.le_of_ble_eq_true rfl, Nat.le_of_ble_eq_true rfl⟩ 0 rfl rfl rfl rfl rfl (Nat.le_of_ble_eq_true rfl) d_M_lower_184 (fun H locs hP hD hS => ?_)
          exact J187 v2 z20.1 z21.1 me z20.2.1 z21.2 z20.2.2.2 hf _ _ _ (lv_sub hl [1, 2, 0] rfl) hP hD hS
        · replace hf := (if_pos hc).symm.trans hf
          refine lv_iconst (v := (0 : Int32)) hx hb d_M_lower_176 (by decide) ?_
          refine lv_goto (tgt := 187) hx hb d_M_lower_177 (by decide) ?_
          exact J187 v2 z20.1 (0 : Int32) me z20.2.1 z20.2.2.1 z20.2.2.2 hf _ _ _ (lv_sub hl [1, 2, 0] rfl) hP hD hS
      · replace hf := (if_pos hc).symm.trans hf
        refine lv_aload_n hx hb d_M_lower_162 rfl (lv_at hl 1 rfl) ?_
        refine lv_iconst (v := (5 : Int32)) hx hb d_M_lower_163 (by decide) ?_
        refine lv_iload hx hb d_M_lower_164 (lv_at hl 0 rfl) ?_
        obtain ⟨z22, hz22, hf⟩ := op_b hf
        refine cl_v X cw_M_51 hK hP hD hS hA hl (c_mo_set hz22) ⟨rfl, rfl, Nat.le_of_ble_eq_true rfl, Nat.le_of_ble_eq_true rfl⟩ 0 rfl rfl rfl rfl rfl (Nat.le_of_ble_eq_true rfl) d_M_lower_166 (fun H locs hP hD hS => ?_)
        have hq := Option.some.inj hf
        subst hq
        exact rt_v X hr hlk hK hP hD hS d_M_lower_169
    · replace hf := (if_neg hc).symm.trans hf
      have hq := Option.some.inj hf
      subst hq
      exact rt_v X hr hlk hK hP hD hS d_M_lower_155
  have J87 : ∀ (v2 : Int32) (v3 : Int32) (v4 : Bool) (s0 : Int32) (me : Nat → Int32) (rg : Nat → Int32) (sp : Int32) (iv : Bool), mo_lower_j87 v2 v3 v4 s0 me rg sp iv = some z → ∀ (H : Heap) (locs : List Loc) (ls : Array Slot), lv_has ls 9 [(0, .ref h0), (2, .int v2), (3, .int v3), (4, .int (bz_i v4))] → va_P D cz_all (mw_ h0 h1 h2 h3 h4 h5 h6 h7 cI me rg so sv tl su qu wa ru pe re pn lo se pa sp iv) H → va_D A (mw_ h0 h1 h2 h3 h4 h5 h6 h7 cI me rg so sv tl su qu wa ru pe re pn lo se pa sp iv) → va_S A s.heap H locs → W p l e rm_m_lower s m ([.ref h0, .int x1] : List Value).toArray below meth c H locs 0 0 (MQ below (qs_v D (ty_ cI cT) (mw_ h0 h1 h2 h3 h4 h5 h6 h7 cI z.1 z.2.1 so sv tl su qu wa ru pe re pn lo se pa z.2.2.1 z.2.2.2) A) ([.ref h0, .int x1] : List Value).toArray s 0 0 A) (F0 m 87 ls [.int s0]) := by
    intro v2 v3 v4 s0 me rg sp iv hf H locs ls hl hP hD hS
    unfold mo_lower_j87 at hf
    refine lv_istore hx hb d_M_lower_87 hl (by decide) rfl (fun ls hl => ?_)
    have hl : lv_has ls 9 [(5, .int s0), (0, .ref h0), (2, .int v2), (3, .int v3), (4, .int (bz_i v4))] := hl
    refine lv_iload hx hb d_M_lower_89 (lv_at hl 4 rfl) ?_
    refine lv_if_eq (tgt := 123) hx hb d_M_lower_91 (by decide) (fun hc => ?_) (fun hc => ?_)
    · replace hf := (if_pos hc).symm.trans hf
      refine lv_aload_n hx hb d_M_lower_123 rfl (lv_at hl 1 rfl) ?_
      refine lv_iload_n hx hb d_M_lower_124 rfl (lv_at hl 3 rfl) ?_
      refine lv_if_ne (tgt := 132) hx hb d_M_lower_125 (by decide) (fun hc => ?_) (fun hc => ?_)
      · replace hf := (if_neg hc).symm.trans hf
        refine lv_iload_n hx hb d_M_lower_132 rfl (lv_at hl 3 rfl) ?_
        refine lv_bipush (v := (6 : Int32)) hx hb d_M_lower_133 (by decide) ?_
        refine lv_icmp_ne (tgt := 142) hx hb d_M_lower_135 (by decide) (fun hc => ?_) (fun hc => ?_)
        · replace hf := (if_neg hc).symm.trans hf
          refine lv_iconst (v := (3 : Int32)) hx hb d_M_lower_142 (by decide) ?_
          exact J143 v2 (3 : Int32) me rg sp iv hf _ _ _ (lv_sub hl [1, 2] rfl) hP hD hS
        · replace hf := (if_pos hc).symm.trans hf
          refine lv_iconst (v := (2 : Int32)) hx hb d_M_lower_138 (by decide) ?_
          refine lv_goto (tgt := 143) hx hb d_M_lower_139 (by decide) ?_
          exact J143 v2 (2 : Int32) me rg sp iv hf _ _ _ (lv_sub hl [1, 2] rfl) hP hD hS
      · replace hf := (if_pos hc).symm.trans hf
        refine lv_iconst (v := (1 : Int32)) hx hb d_M_lower_128 (by decide) ?_
        refine lv_goto (tgt := 143) hx hb d_M_lower_129 (by decide) ?_
        exact J143 v2 (1 : Int32) me rg sp iv hf _ _ _ (lv_sub hl [1, 2] rfl) hP hD hS
    · replace hf := (if_neg hc).symm.trans hf
      refine lv_aload_n hx hb d_M_lower_94 rfl (lv_at hl 1 rfl) ?_
      refine lv_iload_n hx hb d_M_lower_95 rfl (lv_at hl 2 rfl) ?_
      refine lv_aload_n hx hb d_M_lower_96 rfl (lv_at hl 1 rfl) ?_
      refine mg_reg X hK hP d_M_lower_97 ?_
      refine lv_iload hx hb d_M_lower_100 (lv_at hl 0 rfl) ?_
      obtain ⟨hi23, hf⟩ := op_c hf
      refine ma_rg (k := (s0.toNatClampNeg)) X hK hP hi23 rfl d_M_lower_102 ?_
      obtain ⟨z24, hz24, hf⟩ := op_b hf
      refine cl_i X cw_M_128 hK hP hD hS hA hl (c_mo_changed hz24) ⟨rfl, rfl, Nat.le_of_ble_eq_true rfl, Nat.le_of_ble_eq_true rfl⟩ 0 rfl rfl rfl rfl rfl (Nat.le_of_ble_eq_true rfl) d_M_lower_103 (fun H locs hP hD hS => ?_)
      refine lv_istore hx hb d_M_lower_106 hl (by decide) rfl (fun ls hl => ?_)
      have hl : lv_has ls 9 [(6, .int z24.1), (5, .int s0), (0, .ref h0), (2, .int v2), (3, .int v3), (4, .int (bz_i v4))] := hl
      refine lv_iload_n hx hb d_M_lower_108 rfl (lv_at hl 3 rfl) ?_
      refine lv_bipush (v := (13 : Int32)) hx hb d_M_lower_109 (by decide) ?_
      refine lv_icmp_eq (tgt := 122) hx hb d_M_lower_111 (by decide) (fun hc => ?_) (fun hc => ?_)
      · replace hf := (if_pos hc).symm.trans hf
        have hq := Option.some.inj hf
        subst hq
        exact rt_v X hr hlk hK hP hD hS d_M_lower_122
      · replace hf := (if_neg hc).symm.trans hf
        refine lv_aload_n hx hb d_M_lower_114 rfl (lv_at hl 2 rfl) ?_
        refine lv_iload hx hb d_M_lower_115 (lv_at hl 1 rfl) ?_
        refine lv_iload hx hb d_M_lower_117 (lv_at hl 0 rfl) ?_
        obtain ⟨z25, hz25, hf⟩ := op_b hf
        refine cl_v X cw_M_51 hK hP hD hS hA hl (c_mo_set hz25) ⟨rfl, rfl, Nat.le_of_ble_eq_true rfl, Nat.le_of_ble_eq_true rfl⟩ 0 rfl rfl rfl rfl rfl (Nat.le_of_ble_eq_true rfl) d_M_lower_119 (fun H locs hP hD hS => ?_)
        have hq := Option.some.inj hf
        subst hq
        exact rt_v X hr hlk hK hP hD hS d_M_lower_122
  have J64 : ∀ (v2 : Int32) (v3 : Int32) (v4 : Bool) (s0 : Bool) (me : Nat → Int32) (rg : Nat → Int32) (sp : Int32) (iv : Bool), mo_lower_j64 v2 v3 v4 s0 me rg sp iv = some z → ∀ (H : Heap) (locs : List Loc) (ls : Array Slot), lv_has ls 9 [(0, .ref h0), (2, .int v2), (3, .int v3), (4, .int (bz_i v4))] → va_P D cz_all (mw_ h0 h1 h2 h3 h4 h5 h6 h7 cI me rg so sv tl su qu wa ru pe re pn lo se pa sp iv) H → va_D A (mw_ h0 h1 h2 h3 h4 h5 h6 h7 cI me rg so sv tl su qu wa ru pe re pn lo se pa sp iv) → va_S A s.heap H locs → W p l e rm_m_lower s m ([.ref h0, .int x1] : List Value).toArray below meth c H locs 0 0 (MQ below (qs_v D (ty_ cI cT) (mw_ h0 h1 h2 h3 h4 h5 h6 h7 cI z.1 z.2.1 so sv tl su qu wa ru pe re pn lo se pa z.2.2.1 z.2.2.2) A) ([.ref h0, .int x1] : List Value).toArray s 0 0 A) (F0 m 64 ls [.int (bz_i s0), .ref h0]) := by
    intro v2 v3 v4 s0 me rg sp iv hf H locs ls hl hP hD hS
    unfold mo_lower_j64 at hf
    refine mp_invalid (x := s0) X hK hP hD hS d_M_lower_64 (fun H locs hP hD hS => ?_)
    refine lv_aload_n hx hb d_M_lower_67 rfl (lv_at hl 0 rfl) ?_
    refine mg_invalid X hK hP d_M_lower_68 ?_
    refine lv_if_eq (tgt := 75) hx hb d_M_lower_71 (by decide) (fun hc => ?_) (fun hc => ?_)
    · replace hf := (if_pos hc).symm.trans hf
      refine lv_iload_n hx hb d_M_lower_75 rfl (lv_at hl 2 rfl) ?_
      refine lv_iconst (v := (4 : Int32)) hx hb d_M_lower_76 (by decide) ?_
      refine lv_icmp_ne (tgt := 85) hx hb d_M_lower_77 (by decide) (fun hc => ?_) (fun hc => ?_)
      · replace hf := (if_neg hc).symm.trans hf
        refine lv_bipush (v := (9 : Int32)) hx hb d_M_lower_85 (by decide) ?_
        exact J87 v2 v3 v4 (9 : Int32) me rg sp s0 hf _ _ _ hl hP hD hS
      · replace hf := (if_pos hc).symm.trans hf
        refine lv_bipush (v := (8 : Int32)) hx hb d_M_lower_80 (by decide) ?_
        refine lv_goto (tgt := 87) hx hb d_M_lower_82 (by decide) ?_
        exact J87 v2 v3 v4 (8 : Int32) me rg sp s0 hf _ _ _ hl hP hD hS
    · replace hf := (if_neg hc).symm.trans hf
      have hq := Option.some.inj hf
      subst hq
      exact rt_v X hr hlk hK hP hD hS d_M_lower_74
  have J63 : ∀ (v2 : Int32) (v3 : Int32) (v4 : Bool) (me : Nat → Int32) (rg : Nat → Int32) (sp : Int32) (iv : Bool), mo_lower_j63 v2 v3 v4 me rg sp iv = some z → ∀ (H : Heap) (locs : List Loc) (ls : Array Slot), lv_has ls 9 [(0, .ref h0), (2, .int v2), (3, .int v3), (4, .int (bz_i v4))] → va_P D cz_all (mw_ h0 h1 h2 h3 h4 h5 h6 h7 cI me rg so sv tl su qu wa ru pe re pn lo se pa sp iv) H → va_D A (mw_ h0 h1 h2 h3 h4 h5 h6 h7 cI me rg so sv tl su qu wa ru pe re pn lo se pa sp iv) → va_S A s.heap H locs → W p l e rm_m_lower s m ([.ref h0, .int x1] : List Value).toArray below meth c H locs 0 0 (MQ below (qs_v D (ty_ cI cT) (mw_ h0 h1 h2 h3 h4 h5 h6 h7 cI z.1 z.2.1 so sv tl su qu wa ru pe re pn lo se pa z.2.2.1 z.2.2.2) A) ([.ref h0, .int x1] : List Value).toArray s 0 0 A) (F0 m 63 ls [.ref h0]) := by
    intro v2 v3 v4 me rg sp iv hf H locs ls hl hP hD hS
    unfold mo_lower_j63 at hf
    refine lv_iconst (v := (0 : Int32)) hx hb d_M_lower_63 (by decide) ?_
    exact J64 v2 v3 v4 false me rg sp iv hf _ _ _ hl hP hD hS
  have J59 : ∀ (v2 : Int32) (v3 : Int32) (v4 : Bool) (me : Nat → Int32) (rg : Nat → Int32) (sp : Int32) (iv : Bool), mo_lower_j59 v2 v3 v4 me rg sp iv = some z → ∀ (H : Heap) (locs : List Loc) (ls : Array Slot), lv_has ls 9 [(0, .ref h0), (2, .int v2), (3, .int v3), (4, .int (bz_i v4))] → va_P D cz_all (mw_ h0 h1 h2 h3 h4 h5 h6 h7 cI me rg so sv tl su qu wa ru pe re pn lo se pa sp iv) H → va_D A (mw_ h0 h1 h2 h3 h4 h5 h6 h7 cI me rg so sv tl su qu wa ru pe re pn lo se pa sp iv) → va_S A s.heap H locs → W p l e rm_m_lower s m ([.ref h0, .int x1] : List Value).toArray below meth c H locs 0 0 (MQ below (qs_v D (ty_ cI cT) (mw_ h0 h1 h2 h3 h4 h5 h6 h7 cI z.1 z.2.1 so sv tl su qu wa ru pe re pn lo se pa z.2.2.1 z.2.2.2) A) ([.ref h0, .int x1] : List Value).toArray s 0 0 A) (F0 m 59 ls [.ref h0]) := by
    intro v2 v3 v4 me rg sp iv hf H locs ls hl hP hD hS
    unfold mo_lower_j59 at hf
    refine lv_iconst (v := (1 : Int32)) hx hb d_M_lower_59 (by decide) ?_
    refine lv_goto (tgt := 64) hx hb d_M_lower_60 (by decide) ?_
    exact J64 v2 v3 v4 true me rg sp iv hf _ _ _ hl hP hD hS
  have J24 : ∀ (v2 : Int32) (v3 : Int32) (s0 : Bool) (me : Nat → Int32) (rg : Nat → Int32) (sp : Int32) (iv : Bool), mo_lower_j24 v2 v3 s0 me rg sp iv = some z → ∀ (H : Heap) (locs : List Loc) (ls : Array Slot), lv_has ls 9 [(0, .ref h0), (2, .int v2), (3, .int v3)] → va_P D cz_all (mw_ h0 h1 h2 h3 h4 h5 h6 h7 cI me rg so sv tl su qu wa ru pe re pn lo se pa sp iv) H → va_D A (mw_ h0 h1 h2 h3 h4 h5 h6 h7 cI me rg so sv tl su qu wa ru pe re pn lo se pa sp iv) → va_S A s.heap H locs → W p l e rm_m_lower s m ([.ref h0, .int x1] : List Value).toArray below meth c H locs 0 0 (MQ below (qs_v D (ty_ cI cT) (mw_ h0 h1 h2 h3 h4 h5 h6 h7 cI z.1 z.2.1 so sv tl su qu wa ru pe re pn lo se pa z.2.2.1 z.2.2.2) A) ([.ref h0, .int x1] : List Value).toArray s 0 0 A) (F0 m 24 ls [.int (bz_i s0)]) := by
    intro v2 v3 s0 me rg sp iv hf H locs ls hl hP hD hS
    unfold mo_lower_j24 at hf
    refine lv_istore hx hb d_M_lower_24 hl (by decide) rfl (fun ls hl => ?_)
    have hl : lv_has ls 9 [(4, .int (bz_i s0)), (0, .ref h0), (2, .int v2), (3, .int v3)] := hl
    refine lv_aload_n hx hb d_M_lower_26 rfl (lv_at hl 1 rfl) ?_
    refine lv_iload_n hx hb d_M_lower_27 rfl (lv_at hl 2 rfl) ?_
    refine lv_iconst (v := (1 : Int32)) hx hb d_M_lower_28 (by decide) ?_
    refine lv_icmp_eq (tgt := 59) hx hb d_M_lower_29 (by decide) (fun hc => ?_) (fun hc => ?_)
    · replace hf := (if_pos hc).symm.trans hf
      exact J59 v2 v3 s0 me rg sp iv hf _ _ _ (lv_sub hl [1, 2, 3, 0] rfl) hP hD hS
    · replace hf := (if_neg hc).symm.trans hf
      refine lv_iload_n hx hb d_M_lower_32 rfl (lv_at hl 2 rfl) ?_
      refine lv_iconst (v := (2 : Int32)) hx hb d_M_lower_33 (by decide) ?_
      refine lv_icmp_eq (tgt := 59) hx hb d_M_lower_34 (by decide) (fun hc => ?_) (fun hc => ?_)
      · replace hf := (if_pos hc).symm.trans hf
        exact J59 v2 v3 s0 me rg sp iv hf _ _ _ (lv_sub hl [1, 2, 3, 0] rfl) hP hD hS
      · replace hf := (if_neg hc).symm.trans hf
        refine lv_iload_n hx hb d_M_lower_37 rfl (lv_at hl 2 rfl) ?_
        refine lv_iconst (v := (5 : Int32)) hx hb d_M_lower_38 (by decide) ?_
        refine lv_icmp_eq (tgt := 59) hx hb d_M_lower_39 (by decide) (fun hc => ?_) (fun hc => ?_)
        · replace hf := (if_pos hc).symm.trans hf
          exact J59 v2 v3 s0 me rg sp iv hf _ _ _ (lv_sub hl [1, 2, 3, 0] rfl) hP hD hS
        · replace hf := (if_neg hc).symm.trans hf
          refine lv_iload_n hx hb d_M_lower_42 rfl (lv_at hl 2 rfl) ?_
          refine lv_bipush (v := (11 : Int32)) hx hb d_M_lower_43 (by decide) ?_
          refine lv_icmp_eq (tgt := 59) hx hb d_M_lower_45 (by decide) (fun hc => ?_) (fun hc => ?_)
          · replace hf := (if_pos hc).symm.trans hf
            exact J59 v2 v3 s0 me rg sp iv hf _ _ _ (lv_sub hl [1, 2, 3, 0] rfl) hP hD hS
          · replace hf := (if_neg hc).symm.trans hf
            refine lv_iload_n hx hb d_M_lower_48 rfl (lv_at hl 2 rfl) ?_
            refine lv_bipush (v := (14 : Int32)) hx hb d_M_lower_49 (by decide) ?_
            refine lv_icmp_ne (tgt := 63) hx hb d_M_lower_51 (by decide) (fun hc => ?_) (fun hc => ?_)
            · replace hf := (if_neg hc).symm.trans hf
              exact J63 v2 v3 s0 me rg sp iv hf _ _ _ (lv_sub hl [1, 2, 3, 0] rfl) hP hD hS
            · replace hf := (if_pos hc).symm.trans hf
              refine lv_iload hx hb d_M_lower_54 (lv_at hl 0 rfl) ?_
              refine lv_if_eq (tgt := 63) hx hb d_M_lower_56 (by decide) (fun hc => ?_) (fun hc => ?_)
              · replace hf := (if_pos hc).symm.trans hf
                exact J63 v2 v3 s0 me rg sp iv hf _ _ _ (lv_sub hl [1, 2, 3, 0] rfl) hP hD hS
              · replace hf := (if_neg hc).symm.trans hf
                exact J59 v2 v3 s0 me rg sp iv hf _ _ _ (lv_sub hl [1, 2, 3, 0] rfl) hP hD hS
  have J19 : ∀ (v2 : Int32) (v3 : Int32) (me : Nat → Int32) (rg : Nat → Int32) (sp : Int32) (iv : Bool), mo_lower_j19 v2 v3 me rg sp iv = some z → ∀ (H : Heap) (locs : List Loc) (ls : Array Slot), lv_has ls 9 [(0, .ref h0), (2, .int v2), (3, .int v3)] → va_P D cz_all (mw_ h0 h1 h2 h3 h4 h5 h6 h7 cI me rg so sv tl su qu wa ru pe re pn lo se pa sp iv) H → va_D A (mw_ h0 h1 h2 h3 h4 h5 h6 h7 cI me rg so sv tl su qu wa ru pe re pn lo se pa sp iv) → va_S A s.heap H locs → W p l e rm_m_lower s m ([.ref h0, .int x1] : List Value).toArray below meth c H locs 0 0 (MQ below (qs_v D (ty_ cI cT) (mw_ h0 h1 h2 h3 h4 h5 h6 h7 cI z.1 z.2.1 so sv tl su qu wa ru pe re pn lo se pa z.2.2.1 z.2.2.2) A) ([.ref h0, .int x1] : List Value).toArray s 0 0 A) (F0 m 19 ls []) := by
    intro v2 v3 me rg sp iv hf H locs ls hl hP hD hS
    unfold mo_lower_j19 at hf
    refine lv_iconst (v := (1 : Int32)) hx hb d_M_lower_19 (by decide) ?_
    refine lv_goto (tgt := 24) hx hb d_M_lower_20 (by decide) ?_
    exact J24 v2 v3 true me rg sp iv hf _ _ _ hl hP hD hS
  unfold mo_lower at hf
  refine lv_iload_n hx hb d_M_lower_0 rfl (lv_at hl 1 rfl) ?_
  refine lv_bipush (v := (15 : Int32)) hx hb d_M_lower_1 (by decide) ?_
  refine lv_iand hx hb d_M_lower_3 ?_
  refine lv_istore_n hx hb d_M_lower_4 rfl hl (by decide) rfl (fun ls hl => ?_)
  have hl : lv_has ls 9 [(2, .int (x1 &&& (15 : Int32))), (0, .ref h0), (1, .int x1)] := hl
  refine lv_iload_n hx hb d_M_lower_5 rfl (lv_at hl 2 rfl) ?_
  refine lv_iconst (v := (4 : Int32)) hx hb d_M_lower_6 (by decide) ?_
  refine lv_ishr hx hb d_M_lower_7 ?_
  refine lv_istore_n hx hb d_M_lower_8 rfl hl (by decide) rfl (fun ls hl => ?_)
  have hl : lv_has ls 9 [(3, .int (x1 >>> ((4 : Int32) &&& 31))), (2, .int (x1 &&& (15 : Int32))), (0, .ref h0), (1, .int x1)] := hl
  refine lv_iload_n hx hb d_M_lower_9 rfl (lv_at hl 0 rfl) ?_
  refine lv_iconst (v := (4 : Int32)) hx hb d_M_lower_10 (by decide) ?_
  refine lv_icmp_eq (tgt := 19) hx hb d_M_lower_11 (by decide) (fun hc => ?_) (fun hc => ?_)
  · replace hf := (if_pos hc).symm.trans hf
    exact J19 (x1 &&& (15 : Int32)) (x1 >>> ((4 : Int32) &&& 31)) me rg sp iv hf _ _ _ (lv_sub hl [2, 1, 0] rfl) hP hD hS
  · replace hf := (if_neg hc).symm.trans hf
    refine lv_iload_n hx hb d_M_lower_14 rfl (lv_at hl 0 rfl) ?_
    refine lv_iconst (v := (5 : Int32)) hx hb d_M_lower_15 (by decide) ?_
    refine lv_icmp_ne (tgt := 23) hx hb d_M_lower_16 (by decide) (fun hc => ?_) (fun hc => ?_)
    · replace hf := (if_neg hc).symm.trans hf
      refine lv_iconst (v := (0 : Int32)) hx hb d_M_lower_23 (by decide) ?_
      exact J24 (x1 &&& (15 : Int32)) (x1 >>> ((4 : Int32) &&& 31)) false me rg sp iv hf _ _ _ (lv_sub hl [2, 1, 0] rfl) hP hD hS
    · replace hf := (if_pos hc).symm.trans hf
      exact J19 (x1 &&& (15 : Int32)) (x1 >>> ((4 : Int32) &&& 31)) me rg sp iv hf _ _ _ (lv_sub hl [2, 1, 0] rfl) hP hD hS
set_option maxHeartbeats 4000000 in
set_option maxRecDepth 100000 in
theorem c_mo_holds {x1 : Int32} {z : Bool} (hf : mo_holds x1 rg = some z) : co_i l my_M_holds mb_M_holds 6 .boolean rm_m_holds D (ty_ cI cT) [.ref h0, .int x1] (mw_ h0 h1 h2 h3 h4 h5 h6 h7 cI me rg so sv tl su qu wa ru pe re pn lo se pa sp iv) (mw_ h0 h1 h2 h3 h4 h5 h6 h7 cI me rg so sv tl su qu wa ru pe re pn lo se pa sp iv) (bz_i z) := by
  refine co_i_of (by decide) (Nat.le_of_ble_eq_true rfl) ?_
  intro p e s m below meth c A ls X hr hlk hK hP hD hS hA hl
  have hx := X.1
  have hb := X.2.1
  have hl : lv_has ls 6 [(0, .ref h0), (1, .int x1)] := hl
  have J114 : ∀ (rg : Nat → Int32), mo_holds_j114 rg = some z → ∀ (H : Heap) (locs : List Loc) (ls : Array Slot), lv_has ls 6 [] → va_P D cz_all (mw_ h0 h1 h2 h3 h4 h5 h6 h7 cI me rg so sv tl su qu wa ru pe re pn lo se pa sp iv) H → va_D A (mw_ h0 h1 h2 h3 h4 h5 h6 h7 cI me rg so sv tl su qu wa ru pe re pn lo se pa sp iv) → va_S A s.heap H locs → W p l e rm_m_holds s m ([.ref h0, .int x1] : List Value).toArray below meth c H locs 0 0 (MQ below (qs_i D (ty_ cI cT) (mw_ h0 h1 h2 h3 h4 h5 h6 h7 cI me rg so sv tl su qu wa ru pe re pn lo se pa sp iv) (bz_i z) A) ([.ref h0, .int x1] : List Value).toArray s 0 0 A) (F0 m 114 ls []) := by
    intro rg hf H locs ls hl hP hD hS
    unfold mo_holds_j114 at hf
    refine lv_iconst (v := (1 : Int32)) hx hb d_M_holds_114 (by decide) ?_
    refine lv_goto (tgt := 119) hx hb d_M_holds_115 (by decide) ?_
    have hq := Option.some.inj hf
    subst hq
    exact rt_i (r := bz_i true) X hr hlk hK (bz_n _) hP hD hS d_M_holds_119
  have J98 : ∀ (v1 : Int32) (v2 : Bool) (v3 : Bool) (v4 : Bool) (rg : Nat → Int32), mo_holds_j98 v1 v2 v3 v4 rg = some z → ∀ (H : Heap) (locs : List Loc) (ls : Array Slot), lv_has ls 6 [(1, .int v1), (2, .int (bz_i v2)), (3, .int (bz_i v3)), (4, .int (bz_i v4))] → va_P D cz_all (mw_ h0 h1 h2 h3 h4 h5 h6 h7 cI me rg so sv tl su qu wa ru pe re pn lo se pa sp iv) H → va_D A (mw_ h0 h1 h2 h3 h4 h5 h6 h7 cI me rg so sv tl su qu wa ru pe re pn lo se pa sp iv) → va_S A s.heap H locs → W p l e rm_m_holds s m ([.ref h0, .int x1] : List Value).toArray below meth c H locs 0 0 (MQ below (qs_i D (ty_ cI cT) (mw_ h0 h1 h2 h3 h4 h5 h6 h7 cI me rg so sv tl su qu wa ru pe re pn lo se pa sp iv) (bz_i z) A) ([.ref h0, .int x1] : List Value).toArray s 0 0 A) (F0 m 98 ls []) := by
    intro v1 v2 v3 v4 rg hf H locs ls hl hP hD hS
    unfold mo_holds_j98 at hf
    refine lv_iload_n hx hb d_M_holds_98 rfl (lv_at hl 0 rfl) ?_
    refine lv_bipush (v := (14 : Int32)) hx hb d_M_holds_99 (by decide) ?_
    refine lv_icmp_ne (tgt := 118) hx hb d_M_holds_101 (by decide) (fun hc => ?_) (fun hc => ?_)
    · replace hf := (if_neg hc).symm.trans hf
      refine lv_iconst (v := (0 : Int32)) hx hb d_M_holds_118 (by decide) ?_
      have hq := Option.some.inj hf
      subst hq
      exact rt_i (r := bz_i false) X hr hlk hK (bz_n _) hP hD hS d_M_holds_119
    · replace hf := (if_pos hc).symm.trans hf
      refine lv_iload_n hx hb d_M_holds_104 rfl (lv_at hl 1 rfl) ?_
      refine lv_iload hx hb d_M_holds_105 (lv_at hl 3 rfl) ?_
      refine lv_icmp_ne (tgt := 118) hx hb d_M_holds_107 (by decide) (fun hc => ?_) (fun hc => ?_)
      · replace hf := (if_neg hc).symm.trans hf
        refine lv_iconst (v := (0 : Int32)) hx hb d_M_holds_118 (by decide) ?_
        have hq := Option.some.inj hf
        subst hq
        exact rt_i (r := bz_i false) X hr hlk hK (bz_n _) hP hD hS d_M_holds_119
      · replace hf := (if_pos hc).symm.trans hf
        refine lv_iload_n hx hb d_M_holds_110 rfl (lv_at hl 2 rfl) ?_
        refine lv_if_ne (tgt := 118) hx hb d_M_holds_111 (by decide) (fun hc => ?_) (fun hc => ?_)
        · replace hf := (if_neg hc).symm.trans hf
          refine lv_iconst (v := (0 : Int32)) hx hb d_M_holds_118 (by decide) ?_
          have hq := Option.some.inj hf
          subst hq
          exact rt_i (r := bz_i false) X hr hlk hK (bz_n _) hP hD hS d_M_holds_119
        · replace hf := (if_pos hc).symm.trans hf
          exact J114 rg hf _ _ _ (lv_sub hl [] rfl) hP hD hS
  have J86 : ∀ (v1 : Int32) (v2 : Bool) (v3 : Bool) (v4 : Bool) (rg : Nat → Int32), mo_holds_j86 v1 v2 v3 v4 rg = some z → ∀ (H : Heap) (locs : List Loc) (ls : Array Slot), lv_has ls 6 [(1, .int v1), (2, .int (bz_i v2)), (3, .int (bz_i v3)), (4, .int (bz_i v4))] → va_P D cz_all (mw_ h0 h1 h2 h3 h4 h5 h6 h7 cI me rg so sv tl su qu wa ru pe re pn lo se pa sp iv) H → va_D A (mw_ h0 h1 h2 h3 h4 h5 h6 h7 cI me rg so sv tl su qu wa ru pe re pn lo se pa sp iv) → va_S A s.heap H locs → W p l e rm_m_holds s m ([.ref h0, .int x1] : List Value).toArray below meth c H locs 0 0 (MQ below (qs_i D (ty_ cI cT) (mw_ h0 h1 h2 h3 h4 h5 h6 h7 cI me rg so sv tl su qu wa ru pe re pn lo se pa sp iv) (bz_i z) A) ([.ref h0, .int x1] : List Value).toArray s 0 0 A) (F0 m 86 ls []) := by
    intro v1 v2 v3 v4 rg hf H locs ls hl hP hD hS
    unfold mo_holds_j86 at hf
    refine lv_iload_n hx hb d_M_holds_86 rfl (lv_at hl 0 rfl) ?_
    refine lv_bipush (v := (12 : Int32)) hx hb d_M_holds_87 (by decide) ?_
    refine lv_icmp_ne (tgt := 98) hx hb d_M_holds_89 (by decide) (fun hc => ?_) (fun hc => ?_)
    · replace hf := (if_neg hc).symm.trans hf
      exact J98 v1 v2 v3 v4 rg hf _ _ _ hl hP hD hS
    · replace hf := (if_pos hc).symm.trans hf
      refine lv_iload_n hx hb d_M_holds_92 rfl (lv_at hl 1 rfl) ?_
      refine lv_iload hx hb d_M_holds_93 (lv_at hl 3 rfl) ?_
      refine lv_icmp_eq (tgt := 114) hx hb d_M_holds_95 (by decide) (fun hc => ?_) (fun hc => ?_)
      · replace hf := (if_pos hc).symm.trans hf
        exact J114 rg hf _ _ _ (lv_sub hl [] rfl) hP hD hS
      · replace hf := (if_neg hc).symm.trans hf
        exact J98 v1 v2 v3 v4 rg hf _ _ _ hl hP hD hS
  have J76 : ∀ (v1 : Int32) (v2 : Bool) (v3 : Bool) (v4 : Bool) (rg : Nat → Int32), mo_holds_j76 v1 v2 v3 v4 rg = some z → ∀ (H : Heap) (locs : List Loc) (ls : Array Slot), lv_has ls 6 [(1, .int v1), (2, .int (bz_i v2)), (3, .int (bz_i v3)), (4, .int (bz_i v4))] → va_P D cz_all (mw_ h0 h1 h2 h3 h4 h5 h6 h7 cI me rg so sv tl su qu wa ru pe re pn lo se pa sp iv) H → va_D A (mw_ h0 h1 h2 h3 h4 h5 h6 h7 cI me rg so sv tl su qu wa ru pe re pn lo se pa sp iv) → va_S A s.heap H locs → W p l e rm_m_holds s m ([.ref h0, .int x1] : List Value).toArray below meth c H locs 0 0 (MQ below (qs_i D (ty_ cI cT) (mw_ h0 h1 h2 h3 h4 h5 h6 h7 cI me rg so sv tl su qu wa ru pe re pn lo se pa sp iv) (bz_i z) A) ([.ref h0, .int x1] : List Value).toArray s 0 0 A) (F0 m 76 ls []) := by
    intro v1 v2 v3 v4 rg hf H locs ls hl hP hD hS
    unfold mo_holds_j76 at hf
    refine lv_iload_n hx hb d_M_holds_76 rfl (lv_at hl 0 rfl) ?_
    refine lv_bipush (v := (10 : Int32)) hx hb d_M_holds_77 (by decide) ?_
    refine lv_icmp_ne (tgt := 86) hx hb d_M_holds_79 (by decide) (fun hc => ?_) (fun hc => ?_)
    · replace hf := (if_neg hc).symm.trans hf
      exact J86 v1 v2 v3 v4 rg hf _ _ _ hl hP hD hS
    · replace hf := (if_pos hc).symm.trans hf
      refine lv_iload_n hx hb d_M_holds_82 rfl (lv_at hl 1 rfl) ?_
      refine lv_if_eq (tgt := 114) hx hb d_M_holds_83 (by decide) (fun hc => ?_) (fun hc => ?_)
      · replace hf := (if_pos hc).symm.trans hf
        exact J114 rg hf _ _ _ (lv_sub hl [] rfl) hP hD hS
      · replace hf := (if_neg hc).symm.trans hf
        exact J86 v1 v2 v3 v4 rg hf _ _ _ hl hP hD hS
  have J65 : ∀ (v1 : Int32) (v2 : Bool) (v3 : Bool) (v4 : Bool) (rg : Nat → Int32), mo_holds_j65 v1 v2 v3 v4 rg = some z → ∀ (H : Heap) (locs : List Loc) (ls : Array Slot), lv_has ls 6 [(1, .int v1), (2, .int (bz_i v2)), (3, .int (bz_i v3)), (4, .int (bz_i v4))] → va_P D cz_all (mw_ h0 h1 h2 h3 h4 h5 h6 h7 cI me rg so sv tl su qu wa ru pe re pn lo se pa sp iv) H → va_D A (mw_ h0 h1 h2 h3 h4 h5 h6 h7 cI me rg so sv tl su qu wa ru pe re pn lo se pa sp iv) → va_S A s.heap H locs → W p l e rm_m_holds s m ([.ref h0, .int x1] : List Value).toArray below meth c H locs 0 0 (MQ below (qs_i D (ty_ cI cT) (mw_ h0 h1 h2 h3 h4 h5 h6 h7 cI me rg so sv tl su qu wa ru pe re pn lo se pa sp iv) (bz_i z) A) ([.ref h0, .int x1] : List Value).toArray s 0 0 A) (F0 m 65 ls []) := by
    intro v1 v2 v3 v4 rg hf H locs ls hl hP hD hS
    unfold mo_holds_j65 at hf
    refine lv_iload_n hx hb d_M_holds_65 rfl (lv_at hl 0 rfl) ?_
    refine lv_bipush (v := (8 : Int32)) hx hb d_M_holds_66 (by decide) ?_
    refine lv_icmp_ne (tgt := 76) hx hb d_M_holds_68 (by decide) (fun hc => ?_) (fun hc => ?_)
    · replace hf := (if_neg hc).symm.trans hf
      exact J76 v1 v2 v3 v4 rg hf _ _ _ hl hP hD hS
    · replace hf := (if_pos hc).symm.trans hf
      refine lv_iload hx hb d_M_holds_71 (lv_at hl 3 rfl) ?_
      refine lv_if_eq (tgt := 114) hx hb d_M_holds_73 (by decide) (fun hc => ?_) (fun hc => ?_)
      · replace hf := (if_pos hc).symm.trans hf
        exact J114 rg hf _ _ _ (lv_sub hl [] rfl) hP hD hS
      · replace hf := (if_neg hc).symm.trans hf
        exact J76 v1 v2 v3 v4 rg hf _ _ _ hl hP hD hS
  have J55 : ∀ (v1 : Int32) (v2 : Bool) (v3 : Bool) (v4 : Bool) (rg : Nat → Int32), mo_holds_j55 v1 v2 v3 v4 rg = some z → ∀ (H : Heap) (locs : List Loc) (ls : Array Slot), lv_has ls 6 [(1, .int v1), (2, .int (bz_i v2)), (3, .int (bz_i v3)), (4, .int (bz_i v4))] → va_P D cz_all (mw_ h0 h1 h2 h3 h4 h5 h6 h7 cI me rg so sv tl su qu wa ru pe re pn lo se pa sp iv) H → va_D A (mw_ h0 h1 h2 h3 h4 h5 h6 h7 cI me rg so sv tl su qu wa ru pe re pn lo se pa sp iv) → va_S A s.heap H locs → W p l e rm_m_holds s m ([.ref h0, .int x1] : List Value).toArray below meth c H locs 0 0 (MQ below (qs_i D (ty_ cI cT) (mw_ h0 h1 h2 h3 h4 h5 h6 h7 cI me rg so sv tl su qu wa ru pe re pn lo se pa sp iv) (bz_i z) A) ([.ref h0, .int x1] : List Value).toArray s 0 0 A) (F0 m 55 ls []) := by
    intro v1 v2 v3 v4 rg hf H locs ls hl hP hD hS
    unfold mo_holds_j55 at hf
    refine lv_iload_n hx hb d_M_holds_55 rfl (lv_at hl 0 rfl) ?_
    refine lv_bipush (v := (6 : Int32)) hx hb d_M_holds_56 (by decide) ?_
    refine lv_icmp_ne (tgt := 65) hx hb d_M_holds_58 (by decide) (fun hc => ?_) (fun hc => ?_)
    · replace hf := (if_neg hc).symm.trans hf
      exact J65 v1 v2 v3 v4 rg hf _ _ _ hl hP hD hS
    · replace hf := (if_pos hc).symm.trans hf
      refine lv_iload_n hx hb d_M_holds_61 rfl (lv_at hl 2 rfl) ?_
      refine lv_if_eq (tgt := 114) hx hb d_M_holds_62 (by decide) (fun hc => ?_) (fun hc => ?_)
      · replace hf := (if_pos hc).symm.trans hf
        exact J114 rg hf _ _ _ (lv_sub hl [] rfl) hP hD hS
      · replace hf := (if_neg hc).symm.trans hf
        exact J65 v1 v2 v3 v4 rg hf _ _ _ hl hP hD hS
  have J45 : ∀ (v1 : Int32) (v2 : Bool) (v3 : Bool) (v4 : Bool) (v5 : Bool) (rg : Nat → Int32), mo_holds_j45 v1 v2 v3 v4 v5 rg = some z → ∀ (H : Heap) (locs : List Loc) (ls : Array Slot), lv_has ls 6 [(1, .int v1), (2, .int (bz_i v2)), (3, .int (bz_i v3)), (4, .int (bz_i v4)), (5, .int (bz_i v5))] → va_P D cz_all (mw_ h0 h1 h2 h3 h4 h5 h6 h7 cI me rg so sv tl su qu wa ru pe re pn lo se pa sp iv) H → va_D A (mw_ h0 h1 h2 h3 h4 h5 h6 h7 cI me rg so sv tl su qu wa ru pe re pn lo se pa sp iv) → va_S A s.heap H locs → W p l e rm_m_holds s m ([.ref h0, .int x1] : List Value).toArray below meth c H locs 0 0 (MQ below (qs_i D (ty_ cI cT) (mw_ h0 h1 h2 h3 h4 h5 h6 h7 cI me rg so sv tl su qu wa ru pe re pn lo se pa sp iv) (bz_i z) A) ([.ref h0, .int x1] : List Value).toArray s 0 0 A) (F0 m 45 ls []) := by
    intro v1 v2 v3 v4 v5 rg hf H locs ls hl hP hD hS
    unfold mo_holds_j45 at hf
    refine lv_iload_n hx hb d_M_holds_45 rfl (lv_at hl 0 rfl) ?_
    refine lv_iconst (v := (4 : Int32)) hx hb d_M_holds_46 (by decide) ?_
    refine lv_icmp_ne (tgt := 55) hx hb d_M_holds_47 (by decide) (fun hc => ?_) (fun hc => ?_)
    · replace hf := (if_neg hc).symm.trans hf
      exact J55 v1 v2 v3 v4 rg hf _ _ _ (lv_sub hl [0, 1, 2, 3] rfl) hP hD hS
    · replace hf := (if_pos hc).symm.trans hf
      refine lv_iload hx hb d_M_holds_50 (lv_at hl 4 rfl) ?_
      refine lv_if_eq (tgt := 114) hx hb d_M_holds_52 (by decide) (fun hc => ?_) (fun hc => ?_)
      · replace hf := (if_pos hc).symm.trans hf
        exact J114 rg hf _ _ _ (lv_sub hl [] rfl) hP hD hS
      · replace hf := (if_neg hc).symm.trans hf
        exact J55 v1 v2 v3 v4 rg hf _ _ _ (lv_sub hl [0, 1, 2, 3] rfl) hP hD hS
  unfold mo_holds at hf
  refine lv_aload_n hx hb d_M_holds_0 rfl (lv_at hl 0 rfl) ?_
  refine lv_bipush (v := (8 : Int32)) hx hb d_M_holds_1 (by decide) ?_
  obtain ⟨z5, hz5, hf⟩ := op_b hf
  refine cl_i X cw_M_101 hK hP hD hS hA hl (c_mo_flag hz5) ⟨rfl, rfl, Nat.le_of_ble_eq_true rfl, Nat.le_of_ble_eq_true rfl⟩ 0 rfl rfl rfl rfl rfl (Nat.le_of_ble_eq_true rfl) d_M_holds_3 (fun H locs hP hD hS => ?_)
  refine lv_istore_n hx hb d_M_holds_6 rfl hl (by decide) rfl (fun ls hl => ?_)
  have hl : lv_has ls 6 [(2, .int (bz_i z5)), (0, .ref h0), (1, .int x1)] := hl
  refine lv_aload_n hx hb d_M_holds_7 rfl (lv_at hl 1 rfl) ?_
  refine lv_iconst (v := (4 : Int32)) hx hb d_M_holds_8 (by decide) ?_
  obtain ⟨z6, hz6, hf⟩ := op_b hf
  refine cl_i X cw_M_101 hK hP hD hS hA hl (c_mo_flag hz6) ⟨rfl, rfl, Nat.le_of_ble_eq_true rfl, Nat.le_of_ble_eq_true rfl⟩ 0 rfl rfl rfl rfl rfl (Nat.le_of_ble_eq_true rfl) d_M_holds_9 (fun H locs hP hD hS => ?_)
  refine lv_istore_n hx hb d_M_holds_12 rfl hl (by decide) rfl (fun ls hl => ?_)
  have hl : lv_has ls 6 [(3, .int (bz_i z6)), (2, .int (bz_i z5)), (0, .ref h0), (1, .int x1)] := hl
  refine lv_aload_n hx hb d_M_holds_13 rfl (lv_at hl 2 rfl) ?_
  refine lv_iconst (v := (2 : Int32)) hx hb d_M_holds_14 (by decide) ?_
  obtain ⟨z7, hz7, hf⟩ := op_b hf
  refine cl_i X cw_M_101 hK hP hD hS hA hl (c_mo_flag hz7) ⟨rfl, rfl, Nat.le_of_ble_eq_true rfl, Nat.le_of_ble_eq_true rfl⟩ 0 rfl rfl rfl rfl rfl (Nat.le_of_ble_eq_true rfl) d_M_holds_15 (fun H locs hP hD hS => ?_)
  refine lv_istore hx hb d_M_holds_18 hl (by decide) rfl (fun ls hl => ?_)
  have hl : lv_has ls 6 [(4, .int (bz_i z7)), (3, .int (bz_i z6)), (2, .int (bz_i z5)), (0, .ref h0), (1, .int x1)] := hl
  refine lv_aload_n hx hb d_M_holds_20 rfl (lv_at hl 3 rfl) ?_
  refine lv_iconst (v := (1 : Int32)) hx hb d_M_holds_21 (by decide) ?_
  obtain ⟨z8, hz8, hf⟩ := op_b hf
  refine cl_i X cw_M_101 hK hP hD hS hA hl (c_mo_flag hz8) ⟨rfl, rfl, Nat.le_of_ble_eq_true rfl, Nat.le_of_ble_eq_true rfl⟩ 0 rfl rfl rfl rfl rfl (Nat.le_of_ble_eq_true rfl) d_M_holds_22 (fun H locs hP hD hS => ?_)
  refine lv_istore hx hb d_M_holds_25 hl (by decide) rfl (fun ls hl => ?_)
  have hl : lv_has ls 6 [(5, .int (bz_i z8)), (4, .int (bz_i z7)), (3, .int (bz_i z6)), (2, .int (bz_i z5)), (0, .ref h0), (1, .int x1)] := hl
  refine lv_iload_n hx hb d_M_holds_27 rfl (lv_at hl 5 rfl) ?_
  refine lv_if_eq (tgt := 114) hx hb d_M_holds_28 (by decide) (fun hc => ?_) (fun hc => ?_)
  · replace hf := (if_pos hc).symm.trans hf
    exact J114 rg hf _ _ _ (lv_sub hl [] rfl) hP hD hS
  · replace hf := (if_neg hc).symm.trans hf
    refine lv_iload_n hx hb d_M_holds_31 rfl (lv_at hl 5 rfl) ?_
    refine lv_iconst (v := (2 : Int32)) hx hb d_M_holds_32 (by decide) ?_
    refine lv_icmp_ne (tgt := 45) hx hb d_M_holds_33 (by decide) (fun hc => ?_) (fun hc => ?_)
    · replace hf := (if_neg hc).symm.trans hf
      exact J45 x1 z5 z6 z7 z8 rg hf _ _ _ (lv_sub hl [5, 3, 2, 1, 0] rfl) hP hD hS
    · replace hf := (if_pos hc).symm.trans hf
      refine lv_iload hx hb d_M_holds_36 (lv_at hl 0 rfl) ?_
      refine lv_if_ne (tgt := 45) hx hb d_M_holds_38 (by decide) (fun hc => ?_) (fun hc => ?_)
      · replace hf := (if_neg hc).symm.trans hf
        exact J45 x1 z5 z6 z7 z8 rg hf _ _ _ (lv_sub hl [5, 3, 2, 1, 0] rfl) hP hD hS
      · replace hf := (if_pos hc).symm.trans hf
        refine lv_iload_n hx hb d_M_holds_41 rfl (lv_at hl 2 rfl) ?_
        refine lv_if_eq (tgt := 114) hx hb d_M_holds_42 (by decide) (fun hc => ?_) (fun hc => ?_)
        · replace hf := (if_pos hc).symm.trans hf
          exact J114 rg hf _ _ _ (lv_sub hl [] rfl) hP hD hS
        · replace hf := (if_neg hc).symm.trans hf
          exact J45 x1 z5 z6 z7 z8 rg hf _ _ _ (lv_sub hl [5, 3, 2, 1, 0] rfl) hP hD hS
set_option maxHeartbeats 4000000 in
set_option maxRecDepth 100000 in
theorem c_mo_branch {x1 : Int32} {z : (Nat → Int32) × Int32} (hf : mo_branch x1 me rg sp = some z) : co_v l my_M_branch mb_M_branch 5 rm_m_branch D (ty_ cI cT) [.ref h0, .int x1] (mw_ h0 h1 h2 h3 h4 h5 h6 h7 cI me rg so sv tl su qu wa ru pe re pn lo se pa sp iv) (mw_ h0 h1 h2 h3 h4 h5 h6 h7 cI me z.1 so sv tl su qu wa ru pe re pn lo se pa z.2 iv) := by
  refine co_v_of (by decide) (Nat.le_of_ble_eq_true rfl) ?_
  intro p e s m below meth c A ls X hr hlk hK hP hD hS hA hl
  have hx := X.1
  have hb := X.2.1
  have hl : lv_has ls 5 [(0, .ref h0), (1, .int x1)] := hl
  have J40 : ∀ (v2 : Int32) (s0 : Bool) (me : Nat → Int32) (rg : Nat → Int32) (sp : Int32), mo_branch_j40 v2 s0 me rg sp = some z → ∀ (H : Heap) (locs : List Loc) (ls : Array Slot), lv_has ls 5 [(0, .ref h0), (2, .int v2)] → va_P D cz_all (mw_ h0 h1 h2 h3 h4 h5 h6 h7 cI me rg so sv tl su qu wa ru pe re pn lo se pa sp iv) H → va_D A (mw_ h0 h1 h2 h3 h4 h5 h6 h7 cI me rg so sv tl su qu wa ru pe re pn lo se pa sp iv) → va_S A s.heap H locs → W p l e rm_m_branch s m ([.ref h0, .int x1] : List Value).toArray below meth c H locs 0 0 (MQ below (qs_v D (ty_ cI cT) (mw_ h0 h1 h2 h3 h4 h5 h6 h7 cI me z.1 so sv tl su qu wa ru pe re pn lo se pa z.2 iv) A) ([.ref h0, .int x1] : List Value).toArray s 0 0 A) (F0 m 40 ls [.int (bz_i s0)]) := by
    intro v2 s0 me rg sp hf H locs ls hl hP hD hS
    unfold mo_branch_j40 at hf
    refine lv_istore hx hb d_M_branch_40 hl (by decide) rfl (fun ls hl => ?_)
    have hl : lv_has ls 5 [(4, .int (bz_i s0)), (0, .ref h0), (2, .int v2)] := hl
    refine lv_iload hx hb d_M_branch_42 (lv_at hl 0 rfl) ?_
    refine lv_if_eq (tgt := 60) hx hb d_M_branch_44 (by decide) (fun hc => ?_) (fun hc => ?_)
    · replace hf := (if_pos hc).symm.trans hf
      have hq := Option.some.inj hf
      subst hq
      exact rt_v X hr hlk hK hP hD hS d_M_branch_60
    · replace hf := (if_neg hc).symm.trans hf
      refine lv_aload_n hx hb d_M_branch_47 rfl (lv_at hl 1 rfl) ?_
      refine lv_iconst (v := (5 : Int32)) hx hb d_M_branch_48 (by decide) ?_
      refine lv_aload_n hx hb d_M_branch_49 rfl (lv_at hl 1 rfl) ?_
      refine mg_reg X hK hP d_M_branch_50 ?_
      refine lv_iconst (v := (5 : Int32)) hx hb d_M_branch_53 (by decide) ?_
      refine ma_rg (k := 5) X hK hP (in_b_vp (by decide)) (by decide) d_M_branch_54 ?_
      refine lv_iload_n hx hb d_M_branch_55 rfl (lv_at hl 2 rfl) ?_
      refine lv_iadd hx hb d_M_branch_56 ?_
      obtain ⟨z6, hz6, hf⟩ := op_b hf
      refine cl_v X cw_M_51 hK hP hD hS hA hl (c_mo_set hz6) ⟨rfl, rfl, Nat.le_of_ble_eq_true rfl, Nat.le_of_ble_eq_true rfl⟩ 0 rfl rfl rfl rfl rfl (Nat.le_of_ble_eq_true rfl) d_M_branch_57 (fun H locs hP hD hS => ?_)
      have hq := Option.some.inj hf
      subst hq
      exact rt_v X hr hlk hK hP hD hS d_M_branch_60
  have J32 : ∀ (v2 : Int32) (s0 : Bool) (s1 : Bool) (me : Nat → Int32) (rg : Nat → Int32) (sp : Int32), mo_branch_j32 v2 s0 s1 me rg sp = some z → ∀ (H : Heap) (locs : List Loc) (ls : Array Slot), lv_has ls 5 [(0, .ref h0), (2, .int v2)] → va_P D cz_all (mw_ h0 h1 h2 h3 h4 h5 h6 h7 cI me rg so sv tl su qu wa ru pe re pn lo se pa sp iv) H → va_D A (mw_ h0 h1 h2 h3 h4 h5 h6 h7 cI me rg so sv tl su qu wa ru pe re pn lo se pa sp iv) → va_S A s.heap H locs → W p l e rm_m_branch s m ([.ref h0, .int x1] : List Value).toArray below meth c H locs 0 0 (MQ below (qs_v D (ty_ cI cT) (mw_ h0 h1 h2 h3 h4 h5 h6 h7 cI me z.1 so sv tl su qu wa ru pe re pn lo se pa z.2 iv) A) ([.ref h0, .int x1] : List Value).toArray s 0 0 A) (F0 m 32 ls [.int (bz_i s0), .int (bz_i s1)]) := by
    intro v2 s0 s1 me rg sp hf H locs ls hl hP hD hS
    unfold mo_branch_j32 at hf
    refine lv_icmp_ne (tgt := 39) hx hb d_M_branch_32 (by decide) (fun hc => ?_) (fun hc => ?_)
    · replace hf := (if_neg hc).symm.trans hf
      refine lv_iconst (v := (0 : Int32)) hx hb d_M_branch_39 (by decide) ?_
      exact J40 v2 false me rg sp hf _ _ _ hl hP hD hS
    · replace hf := (if_pos hc).symm.trans hf
      refine lv_iconst (v := (1 : Int32)) hx hb d_M_branch_35 (by decide) ?_
      refine lv_goto (tgt := 40) hx hb d_M_branch_36 (by decide) ?_
      exact J40 v2 true me rg sp hf _ _ _ hl hP hD hS
  unfold mo_branch at hf
  refine lv_aload_n hx hb d_M_branch_0 rfl (lv_at hl 0 rfl) ?_
  obtain ⟨z7, hz7, hf⟩ := op_b hf
  refine cl_i X cw_M_54 hK hP hD hS hA hl (c_mo_fetch hz7) ⟨rfl, rfl, Nat.le_of_ble_eq_true rfl, Nat.le_of_ble_eq_true rfl⟩ 0 rfl rfl rfl rfl rfl (Nat.le_of_ble_eq_true rfl) d_M_branch_1 (fun H locs hP hD hS => ?_)
  obtain ⟨z8, hz8, hf⟩ := op_b hf
  refine cl_si X cw_M_86 hK hP hD hS hA hl (c_mo_signed hz8) ⟨rfl, rfl, Nat.le_of_ble_eq_true rfl, Nat.le_of_ble_eq_true rfl⟩ rfl rfl (Nat.le_of_ble_eq_true rfl) d_M_branch_4 (fun H locs hP hD hS => ?_)
  refine lv_istore_n hx hb d_M_branch_7 rfl hl (by decide) rfl (fun ls hl => ?_)
  have hl : lv_has ls 5 [(2, .int z8), (0, .ref h0), (1, .int x1)] := hl
  refine lv_iload_n hx hb d_M_branch_8 rfl (lv_at hl 2 rfl) ?_
  refine lv_bipush (v := (15 : Int32)) hx hb d_M_branch_9 (by decide) ?_
  refine lv_iand hx hb d_M_branch_11 ?_
  refine lv_istore_n hx hb d_M_branch_12 rfl hl (by decide) rfl (fun ls hl => ?_)
  have hl : lv_has ls 5 [(3, .int (x1 &&& (15 : Int32))), (2, .int z8), (0, .ref h0), (1, .int x1)] := hl
  refine lv_aload_n hx hb d_M_branch_13 rfl (lv_at hl 2 rfl) ?_
  refine lv_iload_n hx hb d_M_branch_14 rfl (lv_at hl 0 rfl) ?_
  refine lv_bipush (v := (14 : Int32)) hx hb d_M_branch_15 (by decide) ?_
  refine lv_iand hx hb d_M_branch_17 ?_
  obtain ⟨z9, hz9, hf⟩ := op_b hf
  refine cl_i X cw_M_131 hK hP hD hS hA hl (c_mo_holds hz9) ⟨rfl, rfl, Nat.le_of_ble_eq_true rfl, Nat.le_of_ble_eq_true rfl⟩ 0 rfl rfl rfl rfl rfl (Nat.le_of_ble_eq_true rfl) d_M_branch_18 (fun H locs hP hD hS => ?_)
  refine lv_iload_n hx hb d_M_branch_21 rfl (lv_at hl 0 rfl) ?_
  refine lv_iconst (v := (2 : Int32)) hx hb d_M_branch_22 (by decide) ?_
  refine lv_irem hx hb d_M_branch_23 (by decide) ?_
  refine lv_if_ne (tgt := 31) hx hb d_M_branch_24 (by decide) (fun hc => ?_) (fun hc => ?_)
  · replace hf := (if_neg hc).symm.trans hf
    refine lv_iconst (v := (0 : Int32)) hx hb d_M_branch_31 (by decide) ?_
    exact J32 z8 false z9 me z7.2.1 z7.2.2 hf _ _ _ (lv_sub hl [2, 1] rfl) hP hD hS
  · replace hf := (if_pos hc).symm.trans hf
    refine lv_iconst (v := (1 : Int32)) hx hb d_M_branch_27 (by decide) ?_
    refine lv_goto (tgt := 32) hx hb d_M_branch_28 (by decide) ?_
    exact J32 z8 true z9 me z7.2.1 z7.2.2 hf _ _ _ (lv_sub hl [2, 1] rfl) hP hD hS
end MODEL

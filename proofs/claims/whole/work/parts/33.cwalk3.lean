theorem d_P_indexedAddress_0 : decode mb_P_indexedAddress 0 = .ok (.aload_n 0, 1) := by decide +kernel
theorem d_P_indexedAddress_1 : decode mb_P_indexedAddress 1 = .ok (.iconst 1, 1) := by decide +kernel
theorem d_P_indexedAddress_2 : decode mb_P_indexedAddress 2 = .ok (.invokevirtual 35, 3) := by decide +kernel
theorem d_P_indexedAddress_5 : decode mb_P_indexedAddress 5 = .ok (.istore_n 1, 1) := by decide +kernel
theorem d_P_indexedAddress_6 : decode mb_P_indexedAddress 6 = .ok (.iconst 1, 1) := by decide +kernel
theorem d_P_indexedAddress_7 : decode mb_P_indexedAddress 7 = .ok (.iload_n 1, 1) := by decide +kernel
theorem d_P_indexedAddress_8 : decode mb_P_indexedAddress 8 = .ok (.iconst 5, 1) := by decide +kernel
theorem d_P_indexedAddress_9 : decode mb_P_indexedAddress 9 = .ok (.ishr, 1) := by decide +kernel
theorem d_P_indexedAddress_10 : decode mb_P_indexedAddress 10 = .ok (.iconst 3, 1) := by decide +kernel
theorem d_P_indexedAddress_11 : decode mb_P_indexedAddress 11 = .ok (.iand, 1) := by decide +kernel
theorem d_P_indexedAddress_12 : decode mb_P_indexedAddress 12 = .ok (.iadd, 1) := by decide +kernel
theorem d_P_indexedAddress_13 : decode mb_P_indexedAddress 13 = .ok (.istore_n 2, 1) := by decide +kernel
theorem d_P_indexedAddress_14 : decode mb_P_indexedAddress 14 = .ok (.aload_n 0, 1) := by decide +kernel
theorem d_P_indexedAddress_15 : decode mb_P_indexedAddress 15 = .ok (.getfield 15, 3) := by decide +kernel
theorem d_P_indexedAddress_18 : decode mb_P_indexedAddress 18 = .ok (.iload_n 2, 1) := by decide +kernel
theorem d_P_indexedAddress_19 : decode mb_P_indexedAddress 19 = .ok (.invokevirtual 100, 3) := by decide +kernel
theorem d_P_indexedAddress_22 : decode mb_P_indexedAddress 22 = .ok (.istore_n 3, 1) := by decide +kernel
theorem d_P_indexedAddress_23 : decode mb_P_indexedAddress 23 = .ok (.iload_n 1, 1) := by decide +kernel
theorem d_P_indexedAddress_24 : decode mb_P_indexedAddress 24 = .ok (.sipush 128, 3) := by decide +kernel
theorem d_P_indexedAddress_27 : decode mb_P_indexedAddress 27 = .ok (.if_icmp .ge 18, 3) := by decide +kernel
theorem d_P_indexedAddress_30 : decode mb_P_indexedAddress 30 = .ok (.iload_n 3, 1) := by decide +kernel
theorem d_P_indexedAddress_31 : decode mb_P_indexedAddress 31 = .ok (.iload_n 1, 1) := by decide +kernel
theorem d_P_indexedAddress_32 : decode mb_P_indexedAddress 32 = .ok (.bipush 15, 2) := by decide +kernel
theorem d_P_indexedAddress_34 : decode mb_P_indexedAddress 34 = .ok (.iand, 1) := by decide +kernel
theorem d_P_indexedAddress_35 : decode mb_P_indexedAddress 35 = .ok (.iadd, 1) := by decide +kernel
theorem d_P_indexedAddress_36 : decode mb_P_indexedAddress 36 = .ok (.iload_n 1, 1) := by decide +kernel
theorem d_P_indexedAddress_37 : decode mb_P_indexedAddress 37 = .ok (.bipush 16, 2) := by decide +kernel
theorem d_P_indexedAddress_39 : decode mb_P_indexedAddress 39 = .ok (.iand, 1) := by decide +kernel
theorem d_P_indexedAddress_40 : decode mb_P_indexedAddress 40 = .ok (.isub, 1) := by decide +kernel
theorem d_P_indexedAddress_41 : decode mb_P_indexedAddress 41 = .ok (.ldc 76, 2) := by decide +kernel
theorem d_P_indexedAddress_43 : decode mb_P_indexedAddress 43 = .ok (.iand, 1) := by decide +kernel
theorem d_P_indexedAddress_44 : decode mb_P_indexedAddress 44 = .ok (.ireturn, 1) := by decide +kernel
theorem d_P_indexedAddress_45 : decode mb_P_indexedAddress 45 = .ok (.iload_n 1, 1) := by decide +kernel
theorem d_P_indexedAddress_46 : decode mb_P_indexedAddress 46 = .ok (.bipush 15, 2) := by decide +kernel
theorem d_P_indexedAddress_48 : decode mb_P_indexedAddress 48 = .ok (.iand, 1) := by decide +kernel
theorem d_P_indexedAddress_49 : decode mb_P_indexedAddress 49 = .ok (.istore 4, 2) := by decide +kernel
theorem d_P_indexedAddress_51 : decode mb_P_indexedAddress 51 = .ok (.iload_n 1, 1) := by decide +kernel
theorem d_P_indexedAddress_52 : decode mb_P_indexedAddress 52 = .ok (.bipush 16, 2) := by decide +kernel
theorem d_P_indexedAddress_54 : decode mb_P_indexedAddress 54 = .ok (.iand, 1) := by decide +kernel
theorem d_P_indexedAddress_55 : decode mb_P_indexedAddress 55 = .ok (.ifCond .eq 7, 3) := by decide +kernel
theorem d_P_indexedAddress_58 : decode mb_P_indexedAddress 58 = .ok (.iconst 1, 1) := by decide +kernel
theorem d_P_indexedAddress_59 : decode mb_P_indexedAddress 59 = .ok (.goto 4, 3) := by decide +kernel
theorem d_P_indexedAddress_62 : decode mb_P_indexedAddress 62 = .ok (.iconst 0, 1) := by decide +kernel
theorem d_P_indexedAddress_63 : decode mb_P_indexedAddress 63 = .ok (.istore 5, 2) := by decide +kernel
theorem d_P_indexedAddress_65 : decode mb_P_indexedAddress 65 = .ok (.iload 4, 2) := by decide +kernel
theorem d_P_indexedAddress_67 : decode mb_P_indexedAddress 67 = .ok (.iload 5, 2) := by decide +kernel
theorem d_P_indexedAddress_69 : decode mb_P_indexedAddress 69 = .ok (.invokestatic 131, 3) := by decide +kernel
theorem d_P_indexedAddress_72 : decode mb_P_indexedAddress 72 = .ok (.ifCond .ne 11, 3) := by decide +kernel
theorem d_P_indexedAddress_75 : decode mb_P_indexedAddress 75 = .ok (.aload_n 0, 1) := by decide +kernel
theorem d_P_indexedAddress_76 : decode mb_P_indexedAddress 76 = .ok (.bipush (-2), 2) := by decide +kernel
theorem d_P_indexedAddress_78 : decode mb_P_indexedAddress 78 = .ok (.putfield 32, 3) := by decide +kernel
theorem d_P_indexedAddress_81 : decode mb_P_indexedAddress 81 = .ok (.iconst 0, 1) := by decide +kernel
theorem d_P_indexedAddress_82 : decode mb_P_indexedAddress 82 = .ok (.ireturn, 1) := by decide +kernel
theorem d_P_indexedAddress_83 : decode mb_P_indexedAddress 83 = .ok (.iload_n 3, 1) := by decide +kernel
theorem d_P_indexedAddress_84 : decode mb_P_indexedAddress 84 = .ok (.istore 6, 2) := by decide +kernel
theorem d_P_indexedAddress_86 : decode mb_P_indexedAddress 86 = .ok (.iload 4, 2) := by decide +kernel
theorem d_P_indexedAddress_88 : decode mb_P_indexedAddress 88 = .ok (.tableswitch 232 0 13 #[72, 72, 89, 89, 110, 113, 131, 232, 149, 165, 232, 177, 192, 214], 72) := by decide +kernel
theorem d_P_indexedAddress_160 : decode mb_P_indexedAddress 160 = .ok (.aload_n 0, 1) := by decide +kernel
theorem d_P_indexedAddress_161 : decode mb_P_indexedAddress 161 = .ok (.getfield 15, 3) := by decide +kernel
theorem d_P_indexedAddress_164 : decode mb_P_indexedAddress 164 = .ok (.iload_n 2, 1) := by decide +kernel
theorem d_P_indexedAddress_165 : decode mb_P_indexedAddress 165 = .ok (.iload_n 3, 1) := by decide +kernel
theorem d_P_indexedAddress_166 : decode mb_P_indexedAddress 166 = .ok (.iload 4, 2) := by decide +kernel
theorem d_P_indexedAddress_168 : decode mb_P_indexedAddress 168 = .ok (.iadd, 1) := by decide +kernel
theorem d_P_indexedAddress_169 : decode mb_P_indexedAddress 169 = .ok (.iconst 1, 1) := by decide +kernel
theorem d_P_indexedAddress_170 : decode mb_P_indexedAddress 170 = .ok (.iadd, 1) := by decide +kernel
theorem d_P_indexedAddress_171 : decode mb_P_indexedAddress 171 = .ok (.invokevirtual 112, 3) := by decide +kernel
theorem d_P_indexedAddress_174 : decode mb_P_indexedAddress 174 = .ok (.goto 153, 3) := by decide +kernel
theorem d_P_indexedAddress_177 : decode mb_P_indexedAddress 177 = .ok (.iload_n 3, 1) := by decide +kernel
theorem d_P_indexedAddress_178 : decode mb_P_indexedAddress 178 = .ok (.iload 4, 2) := by decide +kernel
theorem d_P_indexedAddress_180 : decode mb_P_indexedAddress 180 = .ok (.isub, 1) := by decide +kernel
theorem d_P_indexedAddress_181 : decode mb_P_indexedAddress 181 = .ok (.iconst 1, 1) := by decide +kernel
theorem d_P_indexedAddress_182 : decode mb_P_indexedAddress 182 = .ok (.iadd, 1) := by decide +kernel
theorem d_P_indexedAddress_183 : decode mb_P_indexedAddress 183 = .ok (.istore 6, 2) := by decide +kernel
theorem d_P_indexedAddress_185 : decode mb_P_indexedAddress 185 = .ok (.aload_n 0, 1) := by decide +kernel
theorem d_P_indexedAddress_186 : decode mb_P_indexedAddress 186 = .ok (.getfield 15, 3) := by decide +kernel
theorem d_P_indexedAddress_189 : decode mb_P_indexedAddress 189 = .ok (.iload_n 2, 1) := by decide +kernel
theorem d_P_indexedAddress_190 : decode mb_P_indexedAddress 190 = .ok (.iload 6, 2) := by decide +kernel
theorem d_P_indexedAddress_192 : decode mb_P_indexedAddress 192 = .ok (.invokevirtual 112, 3) := by decide +kernel
theorem d_P_indexedAddress_195 : decode mb_P_indexedAddress 195 = .ok (.goto 132, 3) := by decide +kernel
theorem d_P_indexedAddress_198 : decode mb_P_indexedAddress 198 = .ok (.goto 129, 3) := by decide +kernel
theorem d_P_indexedAddress_201 : decode mb_P_indexedAddress 201 = .ok (.iload_n 3, 1) := by decide +kernel
theorem d_P_indexedAddress_202 : decode mb_P_indexedAddress 202 = .ok (.aload_n 0, 1) := by decide +kernel
theorem d_P_indexedAddress_203 : decode mb_P_indexedAddress 203 = .ok (.getfield 15, 3) := by decide +kernel
theorem d_P_indexedAddress_206 : decode mb_P_indexedAddress 206 = .ok (.getfield 135, 3) := by decide +kernel
theorem d_P_indexedAddress_209 : decode mb_P_indexedAddress 209 = .ok (.iconst 1, 1) := by decide +kernel
theorem d_P_indexedAddress_210 : decode mb_P_indexedAddress 210 = .ok (.invokestatic 138, 3) := by decide +kernel
theorem d_P_indexedAddress_213 : decode mb_P_indexedAddress 213 = .ok (.iadd, 1) := by decide +kernel
theorem d_P_indexedAddress_214 : decode mb_P_indexedAddress 214 = .ok (.istore 6, 2) := by decide +kernel
theorem d_P_indexedAddress_216 : decode mb_P_indexedAddress 216 = .ok (.goto 111, 3) := by decide +kernel
theorem d_P_indexedAddress_219 : decode mb_P_indexedAddress 219 = .ok (.iload_n 3, 1) := by decide +kernel
theorem d_P_indexedAddress_220 : decode mb_P_indexedAddress 220 = .ok (.aload_n 0, 1) := by decide +kernel
theorem d_P_indexedAddress_221 : decode mb_P_indexedAddress 221 = .ok (.getfield 15, 3) := by decide +kernel
theorem d_P_indexedAddress_224 : decode mb_P_indexedAddress 224 = .ok (.getfield 141, 3) := by decide +kernel
theorem d_P_indexedAddress_227 : decode mb_P_indexedAddress 227 = .ok (.iconst 1, 1) := by decide +kernel
theorem d_P_indexedAddress_228 : decode mb_P_indexedAddress 228 = .ok (.invokestatic 138, 3) := by decide +kernel
theorem d_P_indexedAddress_231 : decode mb_P_indexedAddress 231 = .ok (.iadd, 1) := by decide +kernel
theorem d_P_indexedAddress_232 : decode mb_P_indexedAddress 232 = .ok (.istore 6, 2) := by decide +kernel
theorem d_P_indexedAddress_234 : decode mb_P_indexedAddress 234 = .ok (.goto 93, 3) := by decide +kernel
theorem d_P_indexedAddress_237 : decode mb_P_indexedAddress 237 = .ok (.iload_n 3, 1) := by decide +kernel
theorem d_P_indexedAddress_238 : decode mb_P_indexedAddress 238 = .ok (.aload_n 0, 1) := by decide +kernel
theorem d_P_indexedAddress_239 : decode mb_P_indexedAddress 239 = .ok (.iconst 1, 1) := by decide +kernel
theorem d_P_indexedAddress_240 : decode mb_P_indexedAddress 240 = .ok (.invokevirtual 35, 3) := by decide +kernel
theorem d_P_indexedAddress_243 : decode mb_P_indexedAddress 243 = .ok (.iconst 1, 1) := by decide +kernel
theorem d_P_indexedAddress_244 : decode mb_P_indexedAddress 244 = .ok (.invokestatic 138, 3) := by decide +kernel
theorem d_P_indexedAddress_247 : decode mb_P_indexedAddress 247 = .ok (.iadd, 1) := by decide +kernel
theorem d_P_indexedAddress_248 : decode mb_P_indexedAddress 248 = .ok (.istore 6, 2) := by decide +kernel
theorem d_P_indexedAddress_250 : decode mb_P_indexedAddress 250 = .ok (.goto 77, 3) := by decide +kernel
theorem d_P_indexedAddress_253 : decode mb_P_indexedAddress 253 = .ok (.iload_n 3, 1) := by decide +kernel
theorem d_P_indexedAddress_254 : decode mb_P_indexedAddress 254 = .ok (.aload_n 0, 1) := by decide +kernel
theorem d_P_indexedAddress_255 : decode mb_P_indexedAddress 255 = .ok (.iconst 2, 1) := by decide +kernel
theorem d_P_indexedAddress_256 : decode mb_P_indexedAddress 256 = .ok (.invokevirtual 35, 3) := by decide +kernel
theorem d_P_indexedAddress_259 : decode mb_P_indexedAddress 259 = .ok (.iadd, 1) := by decide +kernel
theorem d_P_indexedAddress_260 : decode mb_P_indexedAddress 260 = .ok (.istore 6, 2) := by decide +kernel
theorem d_P_indexedAddress_262 : decode mb_P_indexedAddress 262 = .ok (.goto 65, 3) := by decide +kernel
theorem d_P_indexedAddress_265 : decode mb_P_indexedAddress 265 = .ok (.iload_n 3, 1) := by decide +kernel
theorem d_P_indexedAddress_266 : decode mb_P_indexedAddress 266 = .ok (.aload_n 0, 1) := by decide +kernel
theorem d_P_indexedAddress_267 : decode mb_P_indexedAddress 267 = .ok (.getfield 15, 3) := by decide +kernel
theorem d_P_indexedAddress_270 : decode mb_P_indexedAddress 270 = .ok (.iconst 0, 1) := by decide +kernel
theorem d_P_indexedAddress_271 : decode mb_P_indexedAddress 271 = .ok (.invokevirtual 100, 3) := by decide +kernel
theorem d_P_indexedAddress_274 : decode mb_P_indexedAddress 274 = .ok (.iadd, 1) := by decide +kernel
theorem d_P_indexedAddress_275 : decode mb_P_indexedAddress 275 = .ok (.istore 6, 2) := by decide +kernel
theorem d_P_indexedAddress_277 : decode mb_P_indexedAddress 277 = .ok (.goto 50, 3) := by decide +kernel
theorem d_P_indexedAddress_280 : decode mb_P_indexedAddress 280 = .ok (.aload_n 0, 1) := by decide +kernel
theorem d_P_indexedAddress_281 : decode mb_P_indexedAddress 281 = .ok (.iconst 1, 1) := by decide +kernel
theorem d_P_indexedAddress_282 : decode mb_P_indexedAddress 282 = .ok (.invokevirtual 35, 3) := by decide +kernel
theorem d_P_indexedAddress_285 : decode mb_P_indexedAddress 285 = .ok (.iconst 1, 1) := by decide +kernel
theorem d_P_indexedAddress_286 : decode mb_P_indexedAddress 286 = .ok (.invokestatic 138, 3) := by decide +kernel
theorem d_P_indexedAddress_289 : decode mb_P_indexedAddress 289 = .ok (.aload_n 0, 1) := by decide +kernel
theorem d_P_indexedAddress_290 : decode mb_P_indexedAddress 290 = .ok (.getfield 15, 3) := by decide +kernel
theorem d_P_indexedAddress_293 : decode mb_P_indexedAddress 293 = .ok (.getfield 64, 3) := by decide +kernel
theorem d_P_indexedAddress_296 : decode mb_P_indexedAddress 296 = .ok (.iadd, 1) := by decide +kernel
theorem d_P_indexedAddress_297 : decode mb_P_indexedAddress 297 = .ok (.istore 6, 2) := by decide +kernel
theorem d_P_indexedAddress_299 : decode mb_P_indexedAddress 299 = .ok (.goto 28, 3) := by decide +kernel
theorem d_P_indexedAddress_302 : decode mb_P_indexedAddress 302 = .ok (.aload_n 0, 1) := by decide +kernel
theorem d_P_indexedAddress_303 : decode mb_P_indexedAddress 303 = .ok (.iconst 2, 1) := by decide +kernel
theorem d_P_indexedAddress_304 : decode mb_P_indexedAddress 304 = .ok (.invokevirtual 35, 3) := by decide +kernel
theorem d_P_indexedAddress_307 : decode mb_P_indexedAddress 307 = .ok (.aload_n 0, 1) := by decide +kernel
theorem d_P_indexedAddress_308 : decode mb_P_indexedAddress 308 = .ok (.getfield 15, 3) := by decide +kernel
theorem d_P_indexedAddress_311 : decode mb_P_indexedAddress 311 = .ok (.getfield 64, 3) := by decide +kernel
theorem d_P_indexedAddress_314 : decode mb_P_indexedAddress 314 = .ok (.iadd, 1) := by decide +kernel
theorem d_P_indexedAddress_315 : decode mb_P_indexedAddress 315 = .ok (.istore 6, 2) := by decide +kernel
theorem d_P_indexedAddress_317 : decode mb_P_indexedAddress 317 = .ok (.goto 10, 3) := by decide +kernel
theorem d_P_indexedAddress_320 : decode mb_P_indexedAddress 320 = .ok (.aload_n 0, 1) := by decide +kernel
theorem d_P_indexedAddress_321 : decode mb_P_indexedAddress 321 = .ok (.iconst 2, 1) := by decide +kernel
theorem d_P_indexedAddress_322 : decode mb_P_indexedAddress 322 = .ok (.invokevirtual 35, 3) := by decide +kernel
theorem d_P_indexedAddress_325 : decode mb_P_indexedAddress 325 = .ok (.istore 6, 2) := by decide +kernel
theorem d_P_indexedAddress_327 : decode mb_P_indexedAddress 327 = .ok (.iload 5, 2) := by decide +kernel
theorem d_P_indexedAddress_329 : decode mb_P_indexedAddress 329 = .ok (.ifCond .eq 13, 3) := by decide +kernel
theorem d_P_indexedAddress_332 : decode mb_P_indexedAddress 332 = .ok (.aload_n 0, 1) := by decide +kernel
theorem d_P_indexedAddress_333 : decode mb_P_indexedAddress 333 = .ok (.iload 6, 2) := by decide +kernel
theorem d_P_indexedAddress_335 : decode mb_P_indexedAddress 335 = .ok (.iconst 2, 1) := by decide +kernel
theorem d_P_indexedAddress_336 : decode mb_P_indexedAddress 336 = .ok (.invokevirtual 107, 3) := by decide +kernel
theorem d_P_indexedAddress_339 : decode mb_P_indexedAddress 339 = .ok (.goto 8, 3) := by decide +kernel
theorem d_P_indexedAddress_342 : decode mb_P_indexedAddress 342 = .ok (.iload 6, 2) := by decide +kernel
theorem d_P_indexedAddress_344 : decode mb_P_indexedAddress 344 = .ok (.ldc 76, 2) := by decide +kernel
theorem d_P_indexedAddress_346 : decode mb_P_indexedAddress 346 = .ok (.iand, 1) := by decide +kernel
theorem d_P_indexedAddress_347 : decode mb_P_indexedAddress 347 = .ok (.ireturn, 1) := by decide +kernel
theorem d_P_operandAddress_0 : decode mb_P_operandAddress 0 = .ok (.iload_n 1, 1) := by decide +kernel
theorem d_P_operandAddress_1 : decode mb_P_operandAddress 1 = .ok (.tableswitch 64 0 2 #[27, 42, 59], 27) := by decide +kernel
theorem d_P_operandAddress_28 : decode mb_P_operandAddress 28 = .ok (.aload_n 0, 1) := by decide +kernel
theorem d_P_operandAddress_29 : decode mb_P_operandAddress 29 = .ok (.getfield 15, 3) := by decide +kernel
theorem d_P_operandAddress_32 : decode mb_P_operandAddress 32 = .ok (.getfield 64, 3) := by decide +kernel
theorem d_P_operandAddress_35 : decode mb_P_operandAddress 35 = .ok (.istore_n 3, 1) := by decide +kernel
theorem d_P_operandAddress_36 : decode mb_P_operandAddress 36 = .ok (.aload_n 0, 1) := by decide +kernel
theorem d_P_operandAddress_37 : decode mb_P_operandAddress 37 = .ok (.iload_n 2, 1) := by decide +kernel
theorem d_P_operandAddress_38 : decode mb_P_operandAddress 38 = .ok (.invokevirtual 73, 3) := by decide +kernel
theorem d_P_operandAddress_41 : decode mb_P_operandAddress 41 = .ok (.iload_n 3, 1) := by decide +kernel
theorem d_P_operandAddress_42 : decode mb_P_operandAddress 42 = .ok (.ireturn, 1) := by decide +kernel
theorem d_P_operandAddress_43 : decode mb_P_operandAddress 43 = .ok (.aload_n 0, 1) := by decide +kernel
theorem d_P_operandAddress_44 : decode mb_P_operandAddress 44 = .ok (.getfield 15, 3) := by decide +kernel
theorem d_P_operandAddress_47 : decode mb_P_operandAddress 47 = .ok (.getfield 125, 3) := by decide +kernel
theorem d_P_operandAddress_50 : decode mb_P_operandAddress 50 = .ok (.bipush 8, 2) := by decide +kernel
theorem d_P_operandAddress_52 : decode mb_P_operandAddress 52 = .ok (.ishl, 1) := by decide +kernel
theorem d_P_operandAddress_53 : decode mb_P_operandAddress 53 = .ok (.aload_n 0, 1) := by decide +kernel
theorem d_P_operandAddress_54 : decode mb_P_operandAddress 54 = .ok (.iconst 1, 1) := by decide +kernel
theorem d_P_operandAddress_55 : decode mb_P_operandAddress 55 = .ok (.invokevirtual 35, 3) := by decide +kernel
theorem d_P_operandAddress_58 : decode mb_P_operandAddress 58 = .ok (.ior, 1) := by decide +kernel
theorem d_P_operandAddress_59 : decode mb_P_operandAddress 59 = .ok (.ireturn, 1) := by decide +kernel
theorem d_P_operandAddress_60 : decode mb_P_operandAddress 60 = .ok (.aload_n 0, 1) := by decide +kernel
theorem d_P_operandAddress_61 : decode mb_P_operandAddress 61 = .ok (.invokevirtual 128, 3) := by decide +kernel
theorem d_P_operandAddress_64 : decode mb_P_operandAddress 64 = .ok (.ireturn, 1) := by decide +kernel
theorem d_P_operandAddress_65 : decode mb_P_operandAddress 65 = .ok (.aload_n 0, 1) := by decide +kernel
theorem d_P_operandAddress_66 : decode mb_P_operandAddress 66 = .ok (.iconst 2, 1) := by decide +kernel
theorem d_P_operandAddress_67 : decode mb_P_operandAddress 67 = .ok (.invokevirtual 35, 3) := by decide +kernel
theorem d_P_operandAddress_70 : decode mb_P_operandAddress 70 = .ok (.ireturn, 1) := by decide +kernel
theorem d_P_isChange_0 : decode mb_P_isChange 0 = .ok (.iload_n 0, 1) := by decide +kernel
theorem d_P_isChange_1 : decode mb_P_isChange 1 = .ok (.iconst 1, 1) := by decide +kernel
theorem d_P_isChange_2 : decode mb_P_isChange 2 = .ok (.if_icmp .eq 29, 3) := by decide +kernel
theorem d_P_isChange_5 : decode mb_P_isChange 5 = .ok (.iload_n 0, 1) := by decide +kernel
theorem d_P_isChange_6 : decode mb_P_isChange 6 = .ok (.iconst 2, 1) := by decide +kernel
theorem d_P_isChange_7 : decode mb_P_isChange 7 = .ok (.if_icmp .eq 24, 3) := by decide +kernel
theorem d_P_isChange_10 : decode mb_P_isChange 10 = .ok (.iload_n 0, 1) := by decide +kernel
theorem d_P_isChange_11 : decode mb_P_isChange 11 = .ok (.iconst 5, 1) := by decide +kernel
theorem d_P_isChange_12 : decode mb_P_isChange 12 = .ok (.if_icmp .eq 19, 3) := by decide +kernel
theorem d_P_isChange_15 : decode mb_P_isChange 15 = .ok (.iload_n 0, 1) := by decide +kernel
theorem d_P_isChange_16 : decode mb_P_isChange 16 = .ok (.bipush 11, 2) := by decide +kernel
theorem d_P_isChange_18 : decode mb_P_isChange 18 = .ok (.if_icmp .eq 13, 3) := by decide +kernel
theorem d_P_isChange_21 : decode mb_P_isChange 21 = .ok (.iload_n 0, 1) := by decide +kernel
theorem d_P_isChange_22 : decode mb_P_isChange 22 = .ok (.bipush 14, 2) := by decide +kernel
theorem d_P_isChange_24 : decode mb_P_isChange 24 = .ok (.if_icmp .eq 7, 3) := by decide +kernel
theorem d_P_isChange_27 : decode mb_P_isChange 27 = .ok (.iconst 1, 1) := by decide +kernel
theorem d_P_isChange_28 : decode mb_P_isChange 28 = .ok (.goto 4, 3) := by decide +kernel
theorem d_P_isChange_31 : decode mb_P_isChange 31 = .ok (.iconst 0, 1) := by decide +kernel
theorem d_P_isChange_32 : decode mb_P_isChange 32 = .ok (.ireturn, 1) := by decide +kernel
theorem d_P_changed_0 : decode mb_P_changed 0 = .ok (.iload_n 1, 1) := by decide +kernel
theorem d_P_changed_1 : decode mb_P_changed 1 = .ok (.tableswitch 194 0 13 #[71, 194, 194, 83, 97, 194, 107, 126, 140, 150, 166, 194, 175, 184], 71) := by decide +kernel
theorem d_P_changed_72 : decode mb_P_changed 72 = .ok (.aload_n 0, 1) := by decide +kernel
theorem d_P_changed_73 : decode mb_P_changed 73 = .ok (.getfield 24, 3) := by decide +kernel
theorem d_P_changed_76 : decode mb_P_changed 76 = .ok (.iconst 0, 1) := by decide +kernel
theorem d_P_changed_77 : decode mb_P_changed 77 = .ok (.iload_n 2, 1) := by decide +kernel
theorem d_P_changed_78 : decode mb_P_changed 78 = .ok (.iconst 0, 1) := by decide +kernel
theorem d_P_changed_79 : decode mb_P_changed 79 = .ok (.iconst 1, 1) := by decide +kernel
theorem d_P_changed_80 : decode mb_P_changed 80 = .ok (.invokevirtual 115, 3) := by decide +kernel
theorem d_P_changed_83 : decode mb_P_changed 83 = .ok (.ireturn, 1) := by decide +kernel
theorem d_P_changed_84 : decode mb_P_changed 84 = .ok (.aload_n 0, 1) := by decide +kernel
theorem d_P_changed_85 : decode mb_P_changed 85 = .ok (.getfield 24, 3) := by decide +kernel
theorem d_P_changed_88 : decode mb_P_changed 88 = .ok (.iload_n 2, 1) := by decide +kernel
theorem d_P_changed_89 : decode mb_P_changed 89 = .ok (.sipush 255, 3) := by decide +kernel
theorem d_P_changed_92 : decode mb_P_changed 92 = .ok (.ixor, 1) := by decide +kernel
theorem d_P_changed_93 : decode mb_P_changed 93 = .ok (.iconst 1, 1) := by decide +kernel
theorem d_P_changed_94 : decode mb_P_changed 94 = .ok (.invokevirtual 153, 3) := by decide +kernel
theorem d_P_changed_97 : decode mb_P_changed 97 = .ok (.ireturn, 1) := by decide +kernel
theorem d_P_changed_98 : decode mb_P_changed 98 = .ok (.aload_n 0, 1) := by decide +kernel
theorem d_P_changed_99 : decode mb_P_changed 99 = .ok (.getfield 24, 3) := by decide +kernel
theorem d_P_changed_102 : decode mb_P_changed 102 = .ok (.iload_n 2, 1) := by decide +kernel
theorem d_P_changed_103 : decode mb_P_changed 103 = .ok (.iconst 0, 1) := by decide +kernel
theorem d_P_changed_104 : decode mb_P_changed 104 = .ok (.invokevirtual 156, 3) := by decide +kernel
theorem d_P_changed_107 : decode mb_P_changed 107 = .ok (.ireturn, 1) := by decide +kernel
theorem d_P_changed_108 : decode mb_P_changed 108 = .ok (.aload_n 0, 1) := by decide +kernel
theorem d_P_changed_109 : decode mb_P_changed 109 = .ok (.getfield 24, 3) := by decide +kernel
theorem d_P_changed_112 : decode mb_P_changed 112 = .ok (.iload_n 2, 1) := by decide +kernel
theorem d_P_changed_113 : decode mb_P_changed 113 = .ok (.aload_n 0, 1) := by decide +kernel
theorem d_P_changed_114 : decode mb_P_changed 114 = .ok (.getfield 24, 3) := by decide +kernel
theorem d_P_changed_117 : decode mb_P_changed 117 = .ok (.invokevirtual 118, 3) := by decide +kernel
theorem d_P_changed_120 : decode mb_P_changed 120 = .ok (.bipush 7, 2) := by decide +kernel
theorem d_P_changed_122 : decode mb_P_changed 122 = .ok (.ishl, 1) := by decide +kernel
theorem d_P_changed_123 : decode mb_P_changed 123 = .ok (.invokevirtual 156, 3) := by decide +kernel
theorem d_P_changed_126 : decode mb_P_changed 126 = .ok (.ireturn, 1) := by decide +kernel
theorem d_P_changed_127 : decode mb_P_changed 127 = .ok (.aload_n 0, 1) := by decide +kernel
theorem d_P_changed_128 : decode mb_P_changed 128 = .ok (.getfield 24, 3) := by decide +kernel
theorem d_P_changed_131 : decode mb_P_changed 131 = .ok (.iload_n 2, 1) := by decide +kernel
theorem d_P_changed_132 : decode mb_P_changed 132 = .ok (.iload_n 2, 1) := by decide +kernel
theorem d_P_changed_133 : decode mb_P_changed 133 = .ok (.sipush 128, 3) := by decide +kernel
theorem d_P_changed_136 : decode mb_P_changed 136 = .ok (.iand, 1) := by decide +kernel
theorem d_P_changed_137 : decode mb_P_changed 137 = .ok (.invokevirtual 156, 3) := by decide +kernel
theorem d_P_changed_140 : decode mb_P_changed 140 = .ok (.ireturn, 1) := by decide +kernel
theorem d_P_changed_141 : decode mb_P_changed 141 = .ok (.aload_n 0, 1) := by decide +kernel
theorem d_P_changed_142 : decode mb_P_changed 142 = .ok (.getfield 24, 3) := by decide +kernel
theorem d_P_changed_145 : decode mb_P_changed 145 = .ok (.iload_n 2, 1) := by decide +kernel
theorem d_P_changed_146 : decode mb_P_changed 146 = .ok (.iconst 0, 1) := by decide +kernel
theorem d_P_changed_147 : decode mb_P_changed 147 = .ok (.invokevirtual 159, 3) := by decide +kernel
theorem d_P_changed_150 : decode mb_P_changed 150 = .ok (.ireturn, 1) := by decide +kernel
theorem d_P_changed_151 : decode mb_P_changed 151 = .ok (.aload_n 0, 1) := by decide +kernel
theorem d_P_changed_152 : decode mb_P_changed 152 = .ok (.getfield 24, 3) := by decide +kernel
theorem d_P_changed_155 : decode mb_P_changed 155 = .ok (.iload_n 2, 1) := by decide +kernel
theorem d_P_changed_156 : decode mb_P_changed 156 = .ok (.aload_n 0, 1) := by decide +kernel
theorem d_P_changed_157 : decode mb_P_changed 157 = .ok (.getfield 24, 3) := by decide +kernel
theorem d_P_changed_160 : decode mb_P_changed 160 = .ok (.invokevirtual 118, 3) := by decide +kernel
theorem d_P_changed_163 : decode mb_P_changed 163 = .ok (.invokevirtual 159, 3) := by decide +kernel
theorem d_P_changed_166 : decode mb_P_changed 166 = .ok (.ireturn, 1) := by decide +kernel
theorem d_P_changed_167 : decode mb_P_changed 167 = .ok (.aload_n 0, 1) := by decide +kernel
theorem d_P_changed_168 : decode mb_P_changed 168 = .ok (.getfield 24, 3) := by decide +kernel
theorem d_P_changed_171 : decode mb_P_changed 171 = .ok (.iload_n 2, 1) := by decide +kernel
theorem d_P_changed_172 : decode mb_P_changed 172 = .ok (.invokevirtual 162, 3) := by decide +kernel
theorem d_P_changed_175 : decode mb_P_changed 175 = .ok (.ireturn, 1) := by decide +kernel
theorem d_P_changed_176 : decode mb_P_changed 176 = .ok (.aload_n 0, 1) := by decide +kernel
theorem d_P_changed_177 : decode mb_P_changed 177 = .ok (.getfield 24, 3) := by decide +kernel
theorem d_P_changed_180 : decode mb_P_changed 180 = .ok (.iload_n 2, 1) := by decide +kernel
theorem d_P_changed_181 : decode mb_P_changed 181 = .ok (.invokevirtual 165, 3) := by decide +kernel
theorem d_P_changed_184 : decode mb_P_changed 184 = .ok (.ireturn, 1) := by decide +kernel
theorem d_P_changed_185 : decode mb_P_changed 185 = .ok (.aload_n 0, 1) := by decide +kernel
theorem d_P_changed_186 : decode mb_P_changed 186 = .ok (.getfield 24, 3) := by decide +kernel
theorem d_P_changed_189 : decode mb_P_changed 189 = .ok (.iload_n 2, 1) := by decide +kernel
theorem d_P_changed_190 : decode mb_P_changed 190 = .ok (.iconst 1, 1) := by decide +kernel
theorem d_P_changed_191 : decode mb_P_changed 191 = .ok (.invokevirtual 103, 3) := by decide +kernel
theorem d_P_changed_194 : decode mb_P_changed 194 = .ok (.ireturn, 1) := by decide +kernel
theorem d_P_changed_195 : decode mb_P_changed 195 = .ok (.aload_n 0, 1) := by decide +kernel
theorem d_P_changed_196 : decode mb_P_changed 196 = .ok (.getfield 24, 3) := by decide +kernel
theorem d_P_changed_199 : decode mb_P_changed 199 = .ok (.iconst 0, 1) := by decide +kernel
theorem d_P_changed_200 : decode mb_P_changed 200 = .ok (.iconst 0, 1) := by decide +kernel
theorem d_P_changed_201 : decode mb_P_changed 201 = .ok (.invokevirtual 153, 3) := by decide +kernel
theorem d_P_changed_204 : decode mb_P_changed 204 = .ok (.ireturn, 1) := by decide +kernel
theorem d_P_store_0 : decode mb_P_store 0 = .ok (.aload_n 0, 1) := by decide +kernel
theorem d_P_store_1 : decode mb_P_store 1 = .ok (.dup, 1) := by decide +kernel
theorem d_P_store_2 : decode mb_P_store 2 = .ok (.getfield 28, 3) := by decide +kernel
theorem d_P_store_5 : decode mb_P_store 5 = .ok (.iload_n 3, 1) := by decide +kernel
theorem d_P_store_6 : decode mb_P_store 6 = .ok (.iadd, 1) := by decide +kernel
theorem d_P_store_7 : decode mb_P_store 7 = .ok (.putfield 28, 3) := by decide +kernel
theorem d_P_store_10 : decode mb_P_store 10 = .ok (.aload_n 0, 1) := by decide +kernel
theorem d_P_store_11 : decode mb_P_store 11 = .ok (.getfield 9, 3) := by decide +kernel
theorem d_P_store_14 : decode mb_P_store 14 = .ok (.iload_n 1, 1) := by decide +kernel
theorem d_P_store_15 : decode mb_P_store 15 = .ok (.iload_n 2, 1) := by decide +kernel
theorem d_P_store_16 : decode mb_P_store 16 = .ok (.iload_n 3, 1) := by decide +kernel
theorem d_P_store_17 : decode mb_P_store 17 = .ok (.invokevirtual 77, 3) := by decide +kernel
theorem d_P_store_20 : decode mb_P_store 20 = .ok (.return_, 1) := by decide +kernel
theorem d_P_changeMemory_0 : decode mb_P_changeMemory 0 = .ok (.aload_n 0, 1) := by decide +kernel
theorem d_P_changeMemory_1 : decode mb_P_changeMemory 1 = .ok (.iload_n 2, 1) := by decide +kernel
theorem d_P_changeMemory_2 : decode mb_P_changeMemory 2 = .ok (.iconst 1, 1) := by decide +kernel
theorem d_P_changeMemory_3 : decode mb_P_changeMemory 3 = .ok (.invokevirtual 97, 3) := by decide +kernel
theorem d_P_changeMemory_6 : decode mb_P_changeMemory 6 = .ok (.istore_n 3, 1) := by decide +kernel
theorem d_P_changeMemory_7 : decode mb_P_changeMemory 7 = .ok (.iload_n 1, 1) := by decide +kernel
theorem d_P_changeMemory_8 : decode mb_P_changeMemory 8 = .ok (.invokestatic 146, 3) := by decide +kernel
theorem d_P_changeMemory_11 : decode mb_P_changeMemory 11 = .ok (.ifCond .ne 15, 3) := by decide +kernel
theorem d_P_changeMemory_14 : decode mb_P_changeMemory 14 = .ok (.iload_n 1, 1) := by decide +kernel
theorem d_P_changeMemory_15 : decode mb_P_changeMemory 15 = .ok (.bipush 14, 2) := by decide +kernel
theorem d_P_changeMemory_17 : decode mb_P_changeMemory 17 = .ok (.if_icmp .eq 9, 3) := by decide +kernel
theorem d_P_changeMemory_20 : decode mb_P_changeMemory 20 = .ok (.aload_n 0, 1) := by decide +kernel
theorem d_P_changeMemory_21 : decode mb_P_changeMemory 21 = .ok (.bipush (-2), 2) := by decide +kernel
theorem d_P_changeMemory_23 : decode mb_P_changeMemory 23 = .ok (.putfield 32, 3) := by decide +kernel
theorem d_P_changeMemory_26 : decode mb_P_changeMemory 26 = .ok (.aload_n 0, 1) := by decide +kernel
theorem d_P_changeMemory_27 : decode mb_P_changeMemory 27 = .ok (.getfield 32, 3) := by decide +kernel
theorem d_P_changeMemory_30 : decode mb_P_changeMemory 30 = .ok (.bipush (-2), 2) := by decide +kernel
theorem d_P_changeMemory_32 : decode mb_P_changeMemory 32 = .ok (.if_icmp .ne 4, 3) := by decide +kernel
theorem d_P_changeMemory_35 : decode mb_P_changeMemory 35 = .ok (.return_, 1) := by decide +kernel
theorem d_P_changeMemory_36 : decode mb_P_changeMemory 36 = .ok (.iload_n 1, 1) := by decide +kernel
theorem d_P_changeMemory_37 : decode mb_P_changeMemory 37 = .ok (.bipush 14, 2) := by decide +kernel
theorem d_P_changeMemory_39 : decode mb_P_changeMemory 39 = .ok (.if_icmp .ne 12, 3) := by decide +kernel
theorem d_P_changeMemory_42 : decode mb_P_changeMemory 42 = .ok (.aload_n 0, 1) := by decide +kernel
theorem d_P_changeMemory_43 : decode mb_P_changeMemory 43 = .ok (.getfield 15, 3) := by decide +kernel
theorem d_P_changeMemory_46 : decode mb_P_changeMemory 46 = .ok (.iload_n 3, 1) := by decide +kernel
theorem d_P_changeMemory_47 : decode mb_P_changeMemory 47 = .ok (.putfield 64, 3) := by decide +kernel
theorem d_P_changeMemory_50 : decode mb_P_changeMemory 50 = .ok (.return_, 1) := by decide +kernel
theorem d_P_changeMemory_51 : decode mb_P_changeMemory 51 = .ok (.aload_n 0, 1) := by decide +kernel
theorem d_P_changeMemory_52 : decode mb_P_changeMemory 52 = .ok (.iload_n 1, 1) := by decide +kernel
theorem d_P_changeMemory_53 : decode mb_P_changeMemory 53 = .ok (.iload_n 1, 1) := by decide +kernel
theorem d_P_changeMemory_54 : decode mb_P_changeMemory 54 = .ok (.bipush 15, 2) := by decide +kernel
theorem d_P_changeMemory_56 : decode mb_P_changeMemory 56 = .ok (.if_icmp .ne 7, 3) := by decide +kernel
theorem d_P_changeMemory_59 : decode mb_P_changeMemory 59 = .ok (.iconst 0, 1) := by decide +kernel
theorem d_P_changeMemory_60 : decode mb_P_changeMemory 60 = .ok (.goto 9, 3) := by decide +kernel
theorem d_P_changeMemory_63 : decode mb_P_changeMemory 63 = .ok (.aload_n 0, 1) := by decide +kernel
theorem d_P_changeMemory_64 : decode mb_P_changeMemory 64 = .ok (.iload_n 3, 1) := by decide +kernel
theorem d_P_changeMemory_65 : decode mb_P_changeMemory 65 = .ok (.iconst 1, 1) := by decide +kernel
theorem d_P_changeMemory_66 : decode mb_P_changeMemory 66 = .ok (.invokevirtual 107, 3) := by decide +kernel
theorem d_P_changeMemory_69 : decode mb_P_changeMemory 69 = .ok (.invokevirtual 150, 3) := by decide +kernel
theorem d_P_changeMemory_72 : decode mb_P_changeMemory 72 = .ok (.istore 4, 2) := by decide +kernel
theorem d_P_changeMemory_74 : decode mb_P_changeMemory 74 = .ok (.iload_n 1, 1) := by decide +kernel
theorem d_P_changeMemory_75 : decode mb_P_changeMemory 75 = .ok (.bipush 13, 2) := by decide +kernel
theorem d_P_changeMemory_77 : decode mb_P_changeMemory 77 = .ok (.if_icmp .eq 11, 3) := by decide +kernel
theorem d_P_changeMemory_80 : decode mb_P_changeMemory 80 = .ok (.aload_n 0, 1) := by decide +kernel
theorem d_P_changeMemory_81 : decode mb_P_changeMemory 81 = .ok (.iload_n 3, 1) := by decide +kernel
theorem d_P_changeMemory_82 : decode mb_P_changeMemory 82 = .ok (.iload 4, 2) := by decide +kernel
theorem d_P_changeMemory_84 : decode mb_P_changeMemory 84 = .ok (.iconst 1, 1) := by decide +kernel
theorem d_P_changeMemory_85 : decode mb_P_changeMemory 85 = .ok (.invokevirtual 106, 3) := by decide +kernel
theorem d_P_changeMemory_88 : decode mb_P_changeMemory 88 = .ok (.return_, 1) := by decide +kernel
theorem d_P_calculate_0 : decode mb_P_calculate 0 = .ok (.iload_n 1, 1) := by decide +kernel
theorem d_P_calculate_1 : decode mb_P_calculate 1 = .ok (.tableswitch 166 0 11 #[63, 63, 76, 166, 95, 95, 166, 166, 108, 121, 140, 153], 63) := by decide +kernel
theorem d_P_calculate_64 : decode mb_P_calculate 64 = .ok (.aload_n 0, 1) := by decide +kernel
theorem d_P_calculate_65 : decode mb_P_calculate 65 = .ok (.getfield 24, 3) := by decide +kernel
theorem d_P_calculate_68 : decode mb_P_calculate 68 = .ok (.iload_n 2, 1) := by decide +kernel
theorem d_P_calculate_69 : decode mb_P_calculate 69 = .ok (.iload_n 3, 1) := by decide +kernel
theorem d_P_calculate_70 : decode mb_P_calculate 70 = .ok (.iconst 0, 1) := by decide +kernel
theorem d_P_calculate_71 : decode mb_P_calculate 71 = .ok (.iload 4, 2) := by decide +kernel
theorem d_P_calculate_73 : decode mb_P_calculate 73 = .ok (.invokevirtual 115, 3) := by decide +kernel
theorem d_P_calculate_76 : decode mb_P_calculate 76 = .ok (.ireturn, 1) := by decide +kernel
theorem d_P_calculate_77 : decode mb_P_calculate 77 = .ok (.aload_n 0, 1) := by decide +kernel
theorem d_P_calculate_78 : decode mb_P_calculate 78 = .ok (.getfield 24, 3) := by decide +kernel
theorem d_P_calculate_81 : decode mb_P_calculate 81 = .ok (.iload_n 2, 1) := by decide +kernel
theorem d_P_calculate_82 : decode mb_P_calculate 82 = .ok (.iload_n 3, 1) := by decide +kernel
theorem d_P_calculate_83 : decode mb_P_calculate 83 = .ok (.aload_n 0, 1) := by decide +kernel
theorem d_P_calculate_84 : decode mb_P_calculate 84 = .ok (.getfield 24, 3) := by decide +kernel
theorem d_P_calculate_87 : decode mb_P_calculate 87 = .ok (.invokevirtual 118, 3) := by decide +kernel
theorem d_P_calculate_90 : decode mb_P_calculate 90 = .ok (.iload 4, 2) := by decide +kernel
theorem d_P_calculate_92 : decode mb_P_calculate 92 = .ok (.invokevirtual 115, 3) := by decide +kernel
theorem d_P_calculate_95 : decode mb_P_calculate 95 = .ok (.ireturn, 1) := by decide +kernel
theorem d_P_calculate_96 : decode mb_P_calculate 96 = .ok (.aload_n 0, 1) := by decide +kernel
theorem d_P_calculate_97 : decode mb_P_calculate 97 = .ok (.getfield 24, 3) := by decide +kernel
theorem d_P_calculate_100 : decode mb_P_calculate 100 = .ok (.iload_n 2, 1) := by decide +kernel
theorem d_P_calculate_101 : decode mb_P_calculate 101 = .ok (.iload_n 3, 1) := by decide +kernel
theorem d_P_calculate_102 : decode mb_P_calculate 102 = .ok (.iand, 1) := by decide +kernel
theorem d_P_calculate_103 : decode mb_P_calculate 103 = .ok (.iload 4, 2) := by decide +kernel
theorem d_P_calculate_105 : decode mb_P_calculate 105 = .ok (.invokevirtual 103, 3) := by decide +kernel
theorem d_P_calculate_108 : decode mb_P_calculate 108 = .ok (.ireturn, 1) := by decide +kernel
theorem d_P_calculate_109 : decode mb_P_calculate 109 = .ok (.aload_n 0, 1) := by decide +kernel
theorem d_P_calculate_110 : decode mb_P_calculate 110 = .ok (.getfield 24, 3) := by decide +kernel
theorem d_P_calculate_113 : decode mb_P_calculate 113 = .ok (.iload_n 2, 1) := by decide +kernel
theorem d_P_calculate_114 : decode mb_P_calculate 114 = .ok (.iload_n 3, 1) := by decide +kernel
theorem d_P_calculate_115 : decode mb_P_calculate 115 = .ok (.ixor, 1) := by decide +kernel
theorem d_P_calculate_116 : decode mb_P_calculate 116 = .ok (.iload 4, 2) := by decide +kernel
theorem d_P_calculate_118 : decode mb_P_calculate 118 = .ok (.invokevirtual 103, 3) := by decide +kernel
theorem d_P_calculate_121 : decode mb_P_calculate 121 = .ok (.ireturn, 1) := by decide +kernel
theorem d_P_calculate_122 : decode mb_P_calculate 122 = .ok (.aload_n 0, 1) := by decide +kernel
theorem d_P_calculate_123 : decode mb_P_calculate 123 = .ok (.getfield 24, 3) := by decide +kernel
theorem d_P_calculate_126 : decode mb_P_calculate 126 = .ok (.iload_n 2, 1) := by decide +kernel
theorem d_P_calculate_127 : decode mb_P_calculate 127 = .ok (.iload_n 3, 1) := by decide +kernel
theorem d_P_calculate_128 : decode mb_P_calculate 128 = .ok (.aload_n 0, 1) := by decide +kernel
theorem d_P_calculate_129 : decode mb_P_calculate 129 = .ok (.getfield 24, 3) := by decide +kernel
theorem d_P_calculate_132 : decode mb_P_calculate 132 = .ok (.invokevirtual 118, 3) := by decide +kernel
theorem d_P_calculate_135 : decode mb_P_calculate 135 = .ok (.iload 4, 2) := by decide +kernel
theorem d_P_calculate_137 : decode mb_P_calculate 137 = .ok (.invokevirtual 122, 3) := by decide +kernel
theorem d_P_calculate_140 : decode mb_P_calculate 140 = .ok (.ireturn, 1) := by decide +kernel
theorem d_P_calculate_141 : decode mb_P_calculate 141 = .ok (.aload_n 0, 1) := by decide +kernel
theorem d_P_calculate_142 : decode mb_P_calculate 142 = .ok (.getfield 24, 3) := by decide +kernel
theorem d_P_calculate_145 : decode mb_P_calculate 145 = .ok (.iload_n 2, 1) := by decide +kernel
theorem d_P_calculate_146 : decode mb_P_calculate 146 = .ok (.iload_n 3, 1) := by decide +kernel
theorem d_P_calculate_147 : decode mb_P_calculate 147 = .ok (.ior, 1) := by decide +kernel
theorem d_P_calculate_148 : decode mb_P_calculate 148 = .ok (.iload 4, 2) := by decide +kernel
theorem d_P_calculate_150 : decode mb_P_calculate 150 = .ok (.invokevirtual 103, 3) := by decide +kernel
theorem d_P_calculate_153 : decode mb_P_calculate 153 = .ok (.ireturn, 1) := by decide +kernel
theorem d_P_calculate_154 : decode mb_P_calculate 154 = .ok (.aload_n 0, 1) := by decide +kernel
theorem d_P_calculate_155 : decode mb_P_calculate 155 = .ok (.getfield 24, 3) := by decide +kernel
theorem d_P_calculate_158 : decode mb_P_calculate 158 = .ok (.iload_n 2, 1) := by decide +kernel
theorem d_P_calculate_159 : decode mb_P_calculate 159 = .ok (.iload_n 3, 1) := by decide +kernel
theorem d_P_calculate_160 : decode mb_P_calculate 160 = .ok (.iconst 0, 1) := by decide +kernel
theorem d_P_calculate_161 : decode mb_P_calculate 161 = .ok (.iload 4, 2) := by decide +kernel
theorem d_P_calculate_163 : decode mb_P_calculate 163 = .ok (.invokevirtual 122, 3) := by decide +kernel
theorem d_P_calculate_166 : decode mb_P_calculate 166 = .ok (.ireturn, 1) := by decide +kernel
theorem d_P_calculate_167 : decode mb_P_calculate 167 = .ok (.aload_n 0, 1) := by decide +kernel
theorem d_P_calculate_168 : decode mb_P_calculate 168 = .ok (.getfield 24, 3) := by decide +kernel
theorem d_P_calculate_171 : decode mb_P_calculate 171 = .ok (.iload_n 3, 1) := by decide +kernel
theorem d_P_calculate_172 : decode mb_P_calculate 172 = .ok (.iload 4, 2) := by decide +kernel
theorem d_P_calculate_174 : decode mb_P_calculate 174 = .ok (.invokevirtual 103, 3) := by decide +kernel
theorem d_P_calculate_177 : decode mb_P_calculate 177 = .ok (.ireturn, 1) := by decide +kernel
section CLS
variable {l : Launch} {D : va_G} {w : va_W}
variable {aT aK aQ aL aA aY aB aG aS aP aC aI : Nat} {tk : Nat → Nat} {cI cT : ClassId} {kr : Option Nat} {uz : Int32} {ul : Nat → Option Nat} {ks : Nat → Int32} {kv : Nat → Int32} {kz : Nat → Int32} {ku : Nat → Int32} {cb : Nat → Int32} {ga : Int32} {gb : Int32} {gd : Int32} {gc : Int32} {gx : Int32} {gy : Int32} {gu : Int32} {gs : Int32} {gp : Int32} {qa : Int32} {qb : Int32} {qd : Int32} {qc : Int32} {qx : Int32} {qy : Int32} {qu : Int32} {qs : Int32} {qp : Int32} {py : Int32} {po : Int32} {tp : Int32} {tl : Int32} {ta : Int32} {tv : Int32} {tm : Int32} {tg : Bool}
set_option maxHeartbeats 4000000 in
set_option maxRecDepth 100000 in
theorem c_tc_P_indexedAddress  {z : Int32 × Int32 × Int32 × Int32 × Int32 × Int32 × Int32 × Int32 × Int32 × Int32 × Int32 × Int32} (hf : tc_P_indexedAddress py po cb ga gb gd gc gx gy gu gs gp = some z) : cs_i l my_P_indexedAddress mb_P_indexedAddress 7 .int rm_c_P_indexedAddress D (ty_ cI cT) [.ref aP] (cp_ aY aB aG aP aC cI cT py po cb ga gb gd gc gx gy gu gs gp) (cp_ aY aB aG aP aC cI cT z.2.1 z.2.2.1 cb z.2.2.2.1 z.2.2.2.2.1 z.2.2.2.2.2.1 z.2.2.2.2.2.2.1 z.2.2.2.2.2.2.2.1 z.2.2.2.2.2.2.2.2.1 z.2.2.2.2.2.2.2.2.2.1 z.2.2.2.2.2.2.2.2.2.2.1 z.2.2.2.2.2.2.2.2.2.2.2) z.1 := by
  refine cs_i_of (by decide) (Nat.le_of_ble_eq_true rfl) ?_
  intro p e s m below meth c A ls X hr hlk hK hP hD hS hA hZ hl
  have hx := X.1
  have hb := X.2.1
  have hl : lv_has ls 7 [(0, .ref aP)] := hl
  have J327 : ∀ (v5 : Bool) (v6 : Int32) (py : Int32) (po : Int32) (cb : Nat → Int32) (ga : Int32) (gb : Int32) (gd : Int32) (gc : Int32) (gx : Int32) (gy : Int32) (gu : Int32) (gs : Int32) (gp : Int32), tc_P_indexedAddress_j327 v5 v6 py po cb ga gb gd gc gx gy gu gs gp = some z → ∀ (H : Heap) (locs : List Loc) (ls : Array Slot), lv_has ls 7 [(0, .ref aP), (5, .int (bz_i v5)), (6, .int v6)] → va_P D cz_all (cp_ aY aB aG aP aC cI cT py po cb ga gb gd gc gx gy gu gs gp) H → va_D A (cp_ aY aB aG aP aC cI cT py po cb ga gb gd gc gx gy gu gs gp) → va_S A s.heap H locs → W p l e rm_c_P_indexedAddress s m ([.ref aP] : List Value).toArray below meth c H locs 0 0 (MQ below (qs_i D (ty_ cI cT) (cp_ aY aB aG aP aC cI cT z.2.1 z.2.2.1 cb z.2.2.2.1 z.2.2.2.2.1 z.2.2.2.2.2.1 z.2.2.2.2.2.2.1 z.2.2.2.2.2.2.2.1 z.2.2.2.2.2.2.2.2.1 z.2.2.2.2.2.2.2.2.2.1 z.2.2.2.2.2.2.2.2.2.2.1 z.2.2.2.2.2.2.2.2.2.2.2) z.1 A) ([.ref aP] : List Value).toArray s 0 0 A) (F0 m 327 ls []) := by
    intro v5 v6 py po cb ga gb gd gc gx gy gu gs gp hf H locs ls hl hP hD hS
    unfold tc_P_indexedAddress_j327 at hf
    refine lv_iload hx hb d_P_indexedAddress_327 (lv_at hl 1 rfl) ?_
    refine lv_if_eq (tgt := 342) hx hb d_P_indexedAddress_329 (by decide) (fun hc => ?_) (fun hc => ?_)
    · replace hf := (if_pos hc).symm.trans hf
      refine lv_iload hx hb d_P_indexedAddress_342 (lv_at hl 2 rfl) ?_
      refine lv_ldc (v := (65535 : Int32)) hx hb X.2.2.2.1 (X.2.2.2.2 _ ww_4) d_P_indexedAddress_344 ?_
      refine lv_iand hx hb d_P_indexedAddress_346 ?_
      have hq := Option.some.inj hf
      subst hq
      exact rt_i (r := (v6 &&& (65535 : Int32))) X hr hlk hK rfl hP hD hS d_P_indexedAddress_347
    · replace hf := (if_neg hc).symm.trans hf
      refine lv_aload_n hx hb d_P_indexedAddress_332 rfl (lv_at hl 0 rfl) ?_
      refine lv_iload hx hb d_P_indexedAddress_333 (lv_at hl 2 rfl) ?_
      refine lv_iconst (v := (2 : Int32)) hx hb d_P_indexedAddress_335 (by decide) ?_
      obtain ⟨z27, hz27, hf⟩ := op_b hf
      refine cf_i (ws2 := (cp_ aY aB aG aP aC cI cT z27.2 po cb ga gb gd gc gx gy gu gs gp)) X cx_P_107 hK hP hD hS hA hZ hl (c_tc_P_load (aY := aY) (aB := aB) (aG := aG) (aP := aP) (aC := aC) (py := py) (po := po) (cb := cb) (ga := ga) (gb := gb) (gd := gd) (gc := gc) (gx := gx) (gy := gy) (gu := gu) (gs := gs) (gp := gp) hz27) ⟨rfl, rfl, Nat.le_of_ble_eq_true rfl, Nat.le_of_ble_eq_true rfl⟩ [0, 1, 2, 3, 4] [] [0, 1, 2, 3, 4] rfl rfl rfl rfl (by decide) rfl rfl 0 rfl rfl rfl rfl rfl (Nat.le_of_ble_eq_true rfl) d_P_indexedAddress_336 (fun H locs hP hD hS => ?_)
      refine lv_goto (tgt := 347) hx hb d_P_indexedAddress_339 (by decide) ?_
      have hq := Option.some.inj hf
      subst hq
      exact rt_i (r := z27.1) X hr hlk hK rfl hP hD hS d_P_indexedAddress_347
  have J320 : ∀ (v5 : Bool) (py : Int32) (po : Int32) (cb : Nat → Int32) (ga : Int32) (gb : Int32) (gd : Int32) (gc : Int32) (gx : Int32) (gy : Int32) (gu : Int32) (gs : Int32) (gp : Int32), tc_P_indexedAddress_j320 v5 py po cb ga gb gd gc gx gy gu gs gp = some z → ∀ (H : Heap) (locs : List Loc) (ls : Array Slot), lv_has ls 7 [(0, .ref aP), (5, .int (bz_i v5))] → va_P D cz_all (cp_ aY aB aG aP aC cI cT py po cb ga gb gd gc gx gy gu gs gp) H → va_D A (cp_ aY aB aG aP aC cI cT py po cb ga gb gd gc gx gy gu gs gp) → va_S A s.heap H locs → W p l e rm_c_P_indexedAddress s m ([.ref aP] : List Value).toArray below meth c H locs 0 0 (MQ below (qs_i D (ty_ cI cT) (cp_ aY aB aG aP aC cI cT z.2.1 z.2.2.1 cb z.2.2.2.1 z.2.2.2.2.1 z.2.2.2.2.2.1 z.2.2.2.2.2.2.1 z.2.2.2.2.2.2.2.1 z.2.2.2.2.2.2.2.2.1 z.2.2.2.2.2.2.2.2.2.1 z.2.2.2.2.2.2.2.2.2.2.1 z.2.2.2.2.2.2.2.2.2.2.2) z.1 A) ([.ref aP] : List Value).toArray s 0 0 A) (F0 m 320 ls []) := by
    intro v5 py po cb ga gb gd gc gx gy gu gs gp hf H locs ls hl hP hD hS
    unfold tc_P_indexedAddress_j320 at hf
    refine lv_aload_n hx hb d_P_indexedAddress_320 rfl (lv_at hl 0 rfl) ?_
    refine lv_iconst (v := (2 : Int32)) hx hb d_P_indexedAddress_321 (by decide) ?_
    obtain ⟨z28, hz28, hf⟩ := op_b hf
    refine cf_i (ws2 := (cp_ aY aB aG aP aC cI cT z28.2.1 po cb ga gb gd gc gx gy gu gs z28.2.2)) X cx_P_35 hK hP hD hS hA hZ hl (c_tc_P_fetch (aY := aY) (aB := aB) (aG := aG) (aP := aP) (aC := aC) (py := py) (po := po) (cb := cb) (ga := ga) (gb := gb) (gd := gd) (gc := gc) (gx := gx) (gy := gy) (gu := gu) (gs := gs) (gp := gp) hz28) ⟨rfl, rfl, Nat.le_of_ble_eq_true rfl, Nat.le_of_ble_eq_true rfl⟩ [0, 1, 2, 3, 4] [] [0, 1, 2, 3, 4] rfl rfl rfl rfl (by decide) rfl rfl 0 rfl rfl rfl rfl rfl (Nat.le_of_ble_eq_true rfl) d_P_indexedAddress_322 (fun H locs hP hD hS => ?_)
    refine lv_istore hx hb d_P_indexedAddress_325 hl (by decide) rfl (fun ls hl => ?_)
    have hl : lv_has ls 7 [(6, .int z28.1), (0, .ref aP), (5, .int (bz_i v5))] := hl
    exact J327 v5 z28.1 z28.2.1 po cb ga gb gd gc gx gy gu gs z28.2.2 hf _ _ _ (lv_sub hl [1, 2, 0] rfl) hP hD hS
  have J177 : ∀ (v2 : Int32) (v3 : Int32) (v4 : Int32) (v5 : Bool) (py : Int32) (po : Int32) (cb : Nat → Int32) (ga : Int32) (gb : Int32) (gd : Int32) (gc : Int32) (gx : Int32) (gy : Int32) (gu : Int32) (gs : Int32) (gp : Int32), tc_P_indexedAddress_j177 v2 v3 v4 v5 py po cb ga gb gd gc gx gy gu gs gp = some z → ∀ (H : Heap) (locs : List Loc) (ls : Array Slot), lv_has ls 7 [(0, .ref aP), (2, .int v2), (3, .int v3), (4, .int v4), (5, .int (bz_i v5))] → va_P D cz_all (cp_ aY aB aG aP aC cI cT py po cb ga gb gd gc gx gy gu gs gp) H → va_D A (cp_ aY aB aG aP aC cI cT py po cb ga gb gd gc gx gy gu gs gp) → va_S A s.heap H locs → W p l e rm_c_P_indexedAddress s m ([.ref aP] : List Value).toArray below meth c H locs 0 0 (MQ below (qs_i D (ty_ cI cT) (cp_ aY aB aG aP aC cI cT z.2.1 z.2.2.1 cb z.2.2.2.1 z.2.2.2.2.1 z.2.2.2.2.2.1 z.2.2.2.2.2.2.1 z.2.2.2.2.2.2.2.1 z.2.2.2.2.2.2.2.2.1 z.2.2.2.2.2.2.2.2.2.1 z.2.2.2.2.2.2.2.2.2.2.1 z.2.2.2.2.2.2.2.2.2.2.2) z.1 A) ([.ref aP] : List Value).toArray s 0 0 A) (F0 m 177 ls []) := by
    intro v2 v3 v4 v5 py po cb ga gb gd gc gx gy gu gs gp hf H locs ls hl hP hD hS
    unfold tc_P_indexedAddress_j177 at hf
    refine lv_iload_n hx hb d_P_indexedAddress_177 rfl (lv_at hl 2 rfl) ?_
    refine lv_iload hx hb d_P_indexedAddress_178 (lv_at hl 3 rfl) ?_
    refine lv_isub hx hb d_P_indexedAddress_180 ?_
    refine lv_iconst (v := (1 : Int32)) hx hb d_P_indexedAddress_181 (by decide) ?_
    refine lv_iadd hx hb d_P_indexedAddress_182 ?_
    refine lv_istore hx hb d_P_indexedAddress_183 hl (by decide) rfl (fun ls hl => ?_)
    have hl : lv_has ls 7 [(6, .int ((v3 - v4) + (1 : Int32))), (0, .ref aP), (2, .int v2), (3, .int v3), (4, .int v4), (5, .int (bz_i v5))] := hl
    refine lv_aload_n hx hb d_P_indexedAddress_185 rfl (lv_at hl 1 rfl) ?_
    refine cp_g_P_registers_P X hK hP d_P_indexedAddress_186 ?_
    refine lv_iload_n hx hb d_P_indexedAddress_189 rfl (lv_at hl 2 rfl) ?_
    refine lv_iload hx hb d_P_indexedAddress_190 (lv_at hl 0 rfl) ?_
    obtain ⟨z29, hz29, hf⟩ := op_b hf
    refine cf_v (ws2 := (cp_ aY aB aG aP aC cI cT py po cb z29.1 z29.2.1 z29.2.2.1 z29.2.2.2.1 z29.2.2.2.2.1 z29.2.2.2.2.2.1 z29.2.2.2.2.2.2.1 z29.2.2.2.2.2.2.2.1 z29.2.2.2.2.2.2.2.2)) X cx_P_112 hK hP hD hS hA hZ hl (c_tc_G_set (aG := aG) (ga := ga) (gb := gb) (gd := gd) (gc := gc) (gx := gx) (gy := gy) (gu := gu) (gs := gs) (gp := gp) hz29) ⟨rfl, rfl, Nat.le_of_ble_eq_true rfl, Nat.le_of_ble_eq_true rfl⟩ [3] [0, 1, 2, 4] [0, 1, 2, 4, 3] rfl rfl rfl rfl (by decide) rfl rfl 0 rfl rfl rfl rfl rfl (Nat.le_of_ble_eq_true rfl) d_P_indexedAddress_192 (fun H locs hP hD hS => ?_)
    refine lv_goto (tgt := 327) hx hb d_P_indexedAddress_195 (by decide) ?_
    exact J327 v5 ((v3 - v4) + (1 : Int32)) py po cb z29.1 z29.2.1 z29.2.2.1 z29.2.2.2.1 z29.2.2.2.2.1 z29.2.2.2.2.2.1 z29.2.2.2.2.2.2.1 z29.2.2.2.2.2.2.2.1 z29.2.2.2.2.2.2.2.2 hf _ _ _ (lv_sub hl [1, 5, 0] rfl) hP hD hS
  have J160 : ∀ (v2 : Int32) (v3 : Int32) (v4 : Int32) (v5 : Bool) (v6 : Int32) (py : Int32) (po : Int32) (cb : Nat → Int32) (ga : Int32) (gb : Int32) (gd : Int32) (gc : Int32) (gx : Int32) (gy : Int32) (gu : Int32) (gs : Int32) (gp : Int32), tc_P_indexedAddress_j160 v2 v3 v4 v5 v6 py po cb ga gb gd gc gx gy gu gs gp = some z → ∀ (H : Heap) (locs : List Loc) (ls : Array Slot), lv_has ls 7 [(0, .ref aP), (2, .int v2), (3, .int v3), (4, .int v4), (5, .int (bz_i v5)), (6, .int v6)] → va_P D cz_all (cp_ aY aB aG aP aC cI cT py po cb ga gb gd gc gx gy gu gs gp) H → va_D A (cp_ aY aB aG aP aC cI cT py po cb ga gb gd gc gx gy gu gs gp) → va_S A s.heap H locs → W p l e rm_c_P_indexedAddress s m ([.ref aP] : List Value).toArray below meth c H locs 0 0 (MQ below (qs_i D (ty_ cI cT) (cp_ aY aB aG aP aC cI cT z.2.1 z.2.2.1 cb z.2.2.2.1 z.2.2.2.2.1 z.2.2.2.2.2.1 z.2.2.2.2.2.2.1 z.2.2.2.2.2.2.2.1 z.2.2.2.2.2.2.2.2.1 z.2.2.2.2.2.2.2.2.2.1 z.2.2.2.2.2.2.2.2.2.2.1 z.2.2.2.2.2.2.2.2.2.2.2) z.1 A) ([.ref aP] : List Value).toArray s 0 0 A) (F0 m 160 ls []) := by
    intro v2 v3 v4 v5 v6 py po cb ga gb gd gc gx gy gu gs gp hf H locs ls hl hP hD hS
    unfold tc_P_indexedAddress_j160 at hf
    refine lv_aload_n hx hb d_P_indexedAddress_160 rfl (lv_at hl 0 rfl) ?_
    refine cp_g_P_registers_P X hK hP d_P_indexedAddress_161 ?_
    refine lv_iload_n hx hb d_P_indexedAddress_164 rfl (lv_at hl 1 rfl) ?_
    refine lv_iload_n hx hb d_P_indexedAddress_165 rfl (lv_at hl 2 rfl) ?_
    refine lv_iload hx hb d_P_indexedAddress_166 (lv_at hl 3 rfl) ?_
    refine lv_iadd hx hb d_P_indexedAddress_168 ?_
    refine lv_iconst (v := (1 : Int32)) hx hb d_P_indexedAddress_169 (by decide) ?_
    refine lv_iadd hx hb d_P_indexedAddress_170 ?_
    obtain ⟨z30, hz30, hf⟩ := op_b hf
    refine cf_v (ws2 := (cp_ aY aB aG aP aC cI cT py po cb z30.1 z30.2.1 z30.2.2.1 z30.2.2.2.1 z30.2.2.2.2.1 z30.2.2.2.2.2.1 z30.2.2.2.2.2.2.1 z30.2.2.2.2.2.2.2.1 z30.2.2.2.2.2.2.2.2)) X cx_P_112 hK hP hD hS hA hZ hl (c_tc_G_set (aG := aG) (ga := ga) (gb := gb) (gd := gd) (gc := gc) (gx := gx) (gy := gy) (gu := gu) (gs := gs) (gp := gp) hz30) ⟨rfl, rfl, Nat.le_of_ble_eq_true rfl, Nat.le_of_ble_eq_true rfl⟩ [3] [0, 1, 2, 4] [0, 1, 2, 4, 3] rfl rfl rfl rfl (by decide) rfl rfl 0 rfl rfl rfl rfl rfl (Nat.le_of_ble_eq_true rfl) d_P_indexedAddress_171 (fun H locs hP hD hS => ?_)
    refine lv_goto (tgt := 327) hx hb d_P_indexedAddress_174 (by decide) ?_
    exact J327 v5 v6 py po cb z30.1 z30.2.1 z30.2.2.1 z30.2.2.2.1 z30.2.2.2.2.1 z30.2.2.2.2.2.1 z30.2.2.2.2.2.2.1 z30.2.2.2.2.2.2.2.1 z30.2.2.2.2.2.2.2.2 hf _ _ _ (lv_sub hl [0, 4, 5] rfl) hP hD hS
  have J63 : ∀ (v2 : Int32) (v3 : Int32) (v4 : Int32) (s0 : Bool) (py : Int32) (po : Int32) (cb : Nat → Int32) (ga : Int32) (gb : Int32) (gd : Int32) (gc : Int32) (gx : Int32) (gy : Int32) (gu : Int32) (gs : Int32) (gp : Int32), tc_P_indexedAddress_j63 v2 v3 v4 s0 py po cb ga gb gd gc gx gy gu gs gp = some z → ∀ (H : Heap) (locs : List Loc) (ls : Array Slot), lv_has ls 7 [(0, .ref aP), (2, .int v2), (3, .int v3), (4, .int v4)] → va_P D cz_all (cp_ aY aB aG aP aC cI cT py po cb ga gb gd gc gx gy gu gs gp) H → va_D A (cp_ aY aB aG aP aC cI cT py po cb ga gb gd gc gx gy gu gs gp) → va_S A s.heap H locs → W p l e rm_c_P_indexedAddress s m ([.ref aP] : List Value).toArray below meth c H locs 0 0 (MQ below (qs_i D (ty_ cI cT) (cp_ aY aB aG aP aC cI cT z.2.1 z.2.2.1 cb z.2.2.2.1 z.2.2.2.2.1 z.2.2.2.2.2.1 z.2.2.2.2.2.2.1 z.2.2.2.2.2.2.2.1 z.2.2.2.2.2.2.2.2.1 z.2.2.2.2.2.2.2.2.2.1 z.2.2.2.2.2.2.2.2.2.2.1 z.2.2.2.2.2.2.2.2.2.2.2) z.1 A) ([.ref aP] : List Value).toArray s 0 0 A) (F0 m 63 ls [.int (bz_i s0)]) := by
    intro v2 v3 v4 s0 py po cb ga gb gd gc gx gy gu gs gp hf H locs ls hl hP hD hS
    unfold tc_P_indexedAddress_j63 at hf
    refine lv_istore hx hb d_P_indexedAddress_63 hl (by decide) rfl (fun ls hl => ?_)
    have hl : lv_has ls 7 [(5, .int (bz_i s0)), (0, .ref aP), (2, .int v2), (3, .int v3), (4, .int v4)] := hl
    refine lv_iload hx hb d_P_indexedAddress_65 (lv_at hl 4 rfl) ?_
    refine lv_iload hx hb d_P_indexedAddress_67 (lv_at hl 0 rfl) ?_
    obtain ⟨z31, hz31, hf⟩ := op_b hf
    refine cf_si X cx_P_131 hK hP hD hS hA hZ hl (c_tc_P_isIndexedForm (w := (cp_ aY aB aG aP aC cI cT py po cb ga gb gd gc gx gy gu gs gp)) hz31) ⟨rfl, rfl, Nat.le_of_ble_eq_true rfl, Nat.le_of_ble_eq_true rfl⟩ rfl rfl (Nat.le_of_ble_eq_true rfl) d_P_indexedAddress_69 (fun H locs hP hD hS => ?_)
    refine lv_if_ne (tgt := 83) hx hb d_P_indexedAddress_72 (by decide) (fun hc => ?_) (fun hc => ?_)
    · replace hf := (if_neg hc).symm.trans hf
      refine lv_iload_n hx hb d_P_indexedAddress_83 rfl (lv_at hl 3 rfl) ?_
      refine lv_istore hx hb d_P_indexedAddress_84 hl (by decide) rfl (fun ls hl => ?_)
      have hl : lv_has ls 7 [(6, .int v3), (5, .int (bz_i s0)), (0, .ref aP), (2, .int v2), (3, .int v3), (4, .int v4)] := hl
      refine lv_iload hx hb d_P_indexedAddress_86 (lv_at hl 5 rfl) ?_
      by_cases hk32 : v4 = (0 : Int32)
      · replace hf := (if_pos hk32).symm.trans hf
        refine lv_tableIn (tgt := 160) (off := 72) hx hb d_P_indexedAddress_88 (by rw [hk32]; decide) (by rw [hk32]; decide) (by rw [hk32]; rfl) (by decide) ?_
        exact J160 v2 v3 v4 s0 v3 py po cb ga gb gd gc gx gy gu gs gp hf _ _ _ (lv_sub hl [2, 3, 4, 5, 1, 0] rfl) hP hD hS
      · replace hf := (if_neg hk32).symm.trans hf
        by_cases hk33 : v4 = (1 : Int32)
        · replace hf := (if_pos hk33).symm.trans hf
          refine lv_tableIn (tgt := 160) (off := 72) hx hb d_P_indexedAddress_88 (by rw [hk33]; decide) (by rw [hk33]; decide) (by rw [hk33]; rfl) (by decide) ?_
          exact J160 v2 v3 v4 s0 v3 py po cb ga gb gd gc gx gy gu gs gp hf _ _ _ (lv_sub hl [2, 3, 4, 5, 1, 0] rfl) hP hD hS
        · replace hf := (if_neg hk33).symm.trans hf
          by_cases hk34 : v4 = (2 : Int32)
          · replace hf := (if_pos hk34).symm.trans hf
            refine lv_tableIn (tgt := 177) (off := 89) hx hb d_P_indexedAddress_88 (by rw [hk34]; decide) (by rw [hk34]; decide) (by rw [hk34]; rfl) (by decide) ?_
            exact J177 v2 v3 v4 s0 py po cb ga gb gd gc gx gy gu gs gp hf _ _ _ (lv_sub hl [2, 3, 4, 5, 1] rfl) hP hD hS
          · replace hf := (if_neg hk34).symm.trans hf
            by_cases hk35 : v4 = (3 : Int32)
            · replace hf := (if_pos hk35).symm.trans hf
              refine lv_tableIn (tgt := 177) (off := 89) hx hb d_P_indexedAddress_88 (by rw [hk35]; decide) (by rw [hk35]; decide) (by rw [hk35]; rfl) (by decide) ?_
              exact J177 v2 v3 v4 s0 py po cb ga gb gd gc gx gy gu gs gp hf _ _ _ (lv_sub hl [2, 3, 4, 5, 1] rfl) hP hD hS
            · replace hf := (if_neg hk35).symm.trans hf
              by_cases hk36 : v4 = (4 : Int32)
              · replace hf := (if_pos hk36).symm.trans hf
                refine lv_tableIn (tgt := 198) (off := 110) hx hb d_P_indexedAddress_88 (by rw [hk36]; decide) (by rw [hk36]; decide) (by rw [hk36]; rfl) (by decide) ?_
                refine lv_goto (tgt := 327) hx hb d_P_indexedAddress_198 (by decide) ?_
                exact J327 s0 v3 py po cb ga gb gd gc gx gy gu gs gp hf _ _ _ (lv_sub hl [2, 1, 0] rfl) hP hD hS
              · replace hf := (if_neg hk36).symm.trans hf
                by_cases hk37 : v4 = (5 : Int32)
                · replace hf := (if_pos hk37).symm.trans hf
                  refine lv_tableIn (tgt := 201) (off := 113) hx hb d_P_indexedAddress_88 (by rw [hk37]; decide) (by rw [hk37]; decide) (by rw [hk37]; rfl) (by decide) ?_
                  refine lv_iload_n hx hb d_P_indexedAddress_201 rfl (lv_at hl 4 rfl) ?_
                  refine lv_aload_n hx hb d_P_indexedAddress_202 rfl (lv_at hl 2 rfl) ?_
                  refine cp_g_P_registers_P X hK hP d_P_indexedAddress_203 ?_
                  refine cp_g_G_b_P X hK hP d_P_indexedAddress_206 ?_
                  refine lv_iconst (v := (1 : Int32)) hx hb d_P_indexedAddress_209 (by decide) ?_
                  obtain ⟨z38, hz38, hf⟩ := op_b hf
                  refine cf_si X cx_P_138 hK hP hD hS hA hZ hl (c_tc_C_signed (w := (cp_ aY aB aG aP aC cI cT py po cb ga gb gd gc gx gy gu gs gp)) hz38) ⟨rfl, rfl, Nat.le_of_ble_eq_true rfl, Nat.le_of_ble_eq_true rfl⟩ rfl rfl (Nat.le_of_ble_eq_true rfl) d_P_indexedAddress_210 (fun H locs hP hD hS => ?_)
                  refine lv_iadd hx hb d_P_indexedAddress_213 ?_
                  refine lv_istore hx hb d_P_indexedAddress_214 hl (by decide) rfl (fun ls hl => ?_)
                  have hl : lv_has ls 7 [(6, .int (v3 + z38)), (5, .int (bz_i s0)), (0, .ref aP), (2, .int v2), (3, .int v3), (4, .int v4)] := hl
                  refine lv_goto (tgt := 327) hx hb d_P_indexedAddress_216 (by decide) ?_
                  exact J327 s0 (v3 + z38) py po cb ga gb gd gc gx gy gu gs gp hf _ _ _ (lv_sub hl [2, 1, 0] rfl) hP hD hS
                · replace hf := (if_neg hk37).symm.trans hf
                  by_cases hk39 : v4 = (6 : Int32)
                  · replace hf := (if_pos hk39).symm.trans hf
                    refine lv_tableIn (tgt := 219) (off := 131) hx hb d_P_indexedAddress_88 (by rw [hk39]; decide) (by rw [hk39]; decide) (by rw [hk39]; rfl) (by decide) ?_
                    refine lv_iload_n hx hb d_P_indexedAddress_219 rfl (lv_at hl 4 rfl) ?_
                    refine lv_aload_n hx hb d_P_indexedAddress_220 rfl (lv_at hl 2 rfl) ?_
                    refine cp_g_P_registers_P X hK hP d_P_indexedAddress_221 ?_
                    refine cp_g_G_a_P X hK hP d_P_indexedAddress_224 ?_
                    refine lv_iconst (v := (1 : Int32)) hx hb d_P_indexedAddress_227 (by decide) ?_
                    obtain ⟨z40, hz40, hf⟩ := op_b hf
                    refine cf_si X cx_P_138 hK hP hD hS hA hZ hl (c_tc_C_signed (w := (cp_ aY aB aG aP aC cI cT py po cb ga gb gd gc gx gy gu gs gp)) hz40) ⟨rfl, rfl, Nat.le_of_ble_eq_true rfl, Nat.le_of_ble_eq_true rfl⟩ rfl rfl (Nat.le_of_ble_eq_true rfl) d_P_indexedAddress_228 (fun H locs hP hD hS => ?_)
                    refine lv_iadd hx hb d_P_indexedAddress_231 ?_
                    refine lv_istore hx hb d_P_indexedAddress_232 hl (by decide) rfl (fun ls hl => ?_)
                    have hl : lv_has ls 7 [(6, .int (v3 + z40)), (5, .int (bz_i s0)), (0, .ref aP), (2, .int v2), (3, .int v3), (4, .int v4)] := hl
                    refine lv_goto (tgt := 327) hx hb d_P_indexedAddress_234 (by decide) ?_
                    exact J327 s0 (v3 + z40) py po cb ga gb gd gc gx gy gu gs gp hf _ _ _ (lv_sub hl [2, 1, 0] rfl) hP hD hS
                  · replace hf := (if_neg hk39).symm.trans hf
                    by_cases hk41 : v4 = (7 : Int32)
                    · replace hf := (if_pos hk41).symm.trans hf
                      refine lv_tableIn (tgt := 320) (off := 232) hx hb d_P_indexedAddress_88 (by rw [hk41]; decide) (by rw [hk41]; decide) (by rw [hk41]; rfl) (by decide) ?_
                      exact J320 s0 py po cb ga gb gd gc gx gy gu gs gp hf _ _ _ (lv_sub hl [2, 1] rfl) hP hD hS
                    · replace hf := (if_neg hk41).symm.trans hf
                      by_cases hk42 : v4 = (8 : Int32)
                      · replace hf := (if_pos hk42).symm.trans hf
                        refine lv_tableIn (tgt := 237) (off := 149) hx hb d_P_indexedAddress_88 (by rw [hk42]; decide) (by rw [hk42]; decide) (by rw [hk42]; rfl) (by decide) ?_
                        refine lv_iload_n hx hb d_P_indexedAddress_237 rfl (lv_at hl 4 rfl) ?_
                        refine lv_aload_n hx hb d_P_indexedAddress_238 rfl (lv_at hl 2 rfl) ?_
                        refine lv_iconst (v := (1 : Int32)) hx hb d_P_indexedAddress_239 (by decide) ?_
                        obtain ⟨z43, hz43, hf⟩ := op_b hf
                        refine cf_i (ws2 := (cp_ aY aB aG aP aC cI cT z43.2.1 po cb ga gb gd gc gx gy gu gs z43.2.2)) X cx_P_35 hK hP hD hS hA hZ hl (c_tc_P_fetch (aY := aY) (aB := aB) (aG := aG) (aP := aP) (aC := aC) (py := py) (po := po) (cb := cb) (ga := ga) (gb := gb) (gd := gd) (gc := gc) (gx := gx) (gy := gy) (gu := gu) (gs := gs) (gp := gp) hz43) ⟨rfl, rfl, Nat.le_of_ble_eq_true rfl, Nat.le_of_ble_eq_true rfl⟩ [0, 1, 2, 3, 4] [] [0, 1, 2, 3, 4] rfl rfl rfl rfl (by decide) rfl rfl 0 rfl rfl rfl rfl rfl (Nat.le_of_ble_eq_true rfl) d_P_indexedAddress_240 (fun H locs hP hD hS => ?_)
                        refine lv_iconst (v := (1 : Int32)) hx hb d_P_indexedAddress_243 (by decide) ?_
                        obtain ⟨z44, hz44, hf⟩ := op_b hf
                        refine cf_si X cx_P_138 hK hP hD hS hA hZ hl (c_tc_C_signed (w := (cp_ aY aB aG aP aC cI cT z43.2.1 po cb ga gb gd gc gx gy gu gs z43.2.2)) hz44) ⟨rfl, rfl, Nat.le_of_ble_eq_true rfl, Nat.le_of_ble_eq_true rfl⟩ rfl rfl (Nat.le_of_ble_eq_true rfl) d_P_indexedAddress_244 (fun H locs hP hD hS => ?_)
                        refine lv_iadd hx hb d_P_indexedAddress_247 ?_
                        refine lv_istore hx hb d_P_indexedAddress_248 hl (by decide) rfl (fun ls hl => ?_)
                        have hl : lv_has ls 7 [(6, .int (v3 + z44)), (5, .int (bz_i s0)), (0, .ref aP), (2, .int v2), (3, .int v3), (4, .int v4)] := hl
                        refine lv_goto (tgt := 327) hx hb d_P_indexedAddress_250 (by decide) ?_
                        exact J327 s0 (v3 + z44) z43.2.1 po cb ga gb gd gc gx gy gu gs z43.2.2 hf _ _ _ (lv_sub hl [2, 1, 0] rfl) hP hD hS
                      · replace hf := (if_neg hk42).symm.trans hf
                        by_cases hk45 : v4 = (9 : Int32)
                        · replace hf := (if_pos hk45).symm.trans hf
                          refine lv_tableIn (tgt := 253) (off := 165) hx hb d_P_indexedAddress_88 (by rw [hk45]; decide) (by rw [hk45]; decide) (by rw [hk45]; rfl) (by decide) ?_
                          refine lv_iload_n hx hb d_P_indexedAddress_253 rfl (lv_at hl 4 rfl) ?_
                          refine lv_aload_n hx hb d_P_indexedAddress_254 rfl (lv_at hl 2 rfl) ?_
                          refine lv_iconst (v := (2 : Int32)) hx hb d_P_indexedAddress_255 (by decide) ?_
                          obtain ⟨z46, hz46, hf⟩ := op_b hf
                          refine cf_i (ws2 := (cp_ aY aB aG aP aC cI cT z46.2.1 po cb ga gb gd gc gx gy gu gs z46.2.2)) X cx_P_35 hK hP hD hS hA hZ hl (c_tc_P_fetch (aY := aY) (aB := aB) (aG := aG) (aP := aP) (aC := aC) (py := py) (po := po) (cb := cb) (ga := ga) (gb := gb) (gd := gd) (gc := gc) (gx := gx) (gy := gy) (gu := gu) (gs := gs) (gp := gp) hz46) ⟨rfl, rfl, Nat.le_of_ble_eq_true rfl, Nat.le_of_ble_eq_true rfl⟩ [0, 1, 2, 3, 4] [] [0, 1, 2, 3, 4] rfl rfl rfl rfl (by decide) rfl rfl 0 rfl rfl rfl rfl rfl (Nat.le_of_ble_eq_true rfl) d_P_indexedAddress_256 (fun H locs hP hD hS => ?_)
                          refine lv_iadd hx hb d_P_indexedAddress_259 ?_
                          refine lv_istore hx hb d_P_indexedAddress_260 hl (by decide) rfl (fun ls hl => ?_)
                          have hl : lv_has ls 7 [(6, .int (v3 + z46.1)), (5, .int (bz_i s0)), (0, .ref aP), (2, .int v2), (3, .int v3), (4, .int v4)] := hl
                          refine lv_goto (tgt := 327) hx hb d_P_indexedAddress_262 (by decide) ?_
                          exact J327 s0 (v3 + z46.1) z46.2.1 po cb ga gb gd gc gx gy gu gs z46.2.2 hf _ _ _ (lv_sub hl [2, 1, 0] rfl) hP hD hS
                        · replace hf := (if_neg hk45).symm.trans hf
                          by_cases hk47 : v4 = (10 : Int32)
                          · replace hf := (if_pos hk47).symm.trans hf
                            refine lv_tableIn (tgt := 320) (off := 232) hx hb d_P_indexedAddress_88 (by rw [hk47]; decide) (by rw [hk47]; decide) (by rw [hk47]; rfl) (by decide) ?_
                            exact J320 s0 py po cb ga gb gd gc gx gy gu gs gp hf _ _ _ (lv_sub hl [2, 1] rfl) hP hD hS
                          · replace hf := (if_neg hk47).symm.trans hf
                            by_cases hk48 : v4 = (11 : Int32)
                            · replace hf := (if_pos hk48).symm.trans hf
                              refine lv_tableIn (tgt := 265) (off := 177) hx hb d_P_indexedAddress_88 (by rw [hk48]; decide) (by rw [hk48]; decide) (by rw [hk48]; rfl) (by decide) ?_
                              refine lv_iload_n hx hb d_P_indexedAddress_265 rfl (lv_at hl 4 rfl) ?_
                              refine lv_aload_n hx hb d_P_indexedAddress_266 rfl (lv_at hl 2 rfl) ?_
                              refine cp_g_P_registers_P X hK hP d_P_indexedAddress_267 ?_
                              refine lv_iconst (v := (0 : Int32)) hx hb d_P_indexedAddress_270 (by decide) ?_
                              obtain ⟨z49, hz49, hf⟩ := op_b hf
                              refine cf_i (ws2 := (cp_ aY aB aG aP aC cI cT py po cb ga gb gd gc gx gy gu gs gp)) X cx_P_100 hK hP hD hS hA hZ hl (c_tc_G_get (aG := aG) (ga := ga) (gb := gb) (gd := gd) (gc := gc) (gx := gx) (gy := gy) (gu := gu) (gs := gs) (gp := gp) hz49) ⟨rfl, rfl, Nat.le_of_ble_eq_true rfl, Nat.le_of_ble_eq_true rfl⟩ [3] [0, 1, 2, 4] [0, 1, 2, 4, 3] rfl rfl rfl rfl (by decide) rfl rfl 0 rfl rfl rfl rfl rfl (Nat.le_of_ble_eq_true rfl) d_P_indexedAddress_271 (fun H locs hP hD hS => ?_)
                              refine lv_iadd hx hb d_P_indexedAddress_274 ?_
                              refine lv_istore hx hb d_P_indexedAddress_275 hl (by decide) rfl (fun ls hl => ?_)
                              have hl : lv_has ls 7 [(6, .int (v3 + z49)), (5, .int (bz_i s0)), (0, .ref aP), (2, .int v2), (3, .int v3), (4, .int v4)] := hl
                              refine lv_goto (tgt := 327) hx hb d_P_indexedAddress_277 (by decide) ?_
                              exact J327 s0 (v3 + z49) py po cb ga gb gd gc gx gy gu gs gp hf _ _ _ (lv_sub hl [2, 1, 0] rfl) hP hD hS
                            · replace hf := (if_neg hk48).symm.trans hf
                              by_cases hk50 : v4 = (12 : Int32)
                              · replace hf := (if_pos hk50).symm.trans hf
                                refine lv_tableIn (tgt := 280) (off := 192) hx hb d_P_indexedAddress_88 (by rw [hk50]; decide) (by rw [hk50]; decide) (by rw [hk50]; rfl) (by decide) ?_
                                refine lv_aload_n hx hb d_P_indexedAddress_280 rfl (lv_at hl 2 rfl) ?_
                                refine lv_iconst (v := (1 : Int32)) hx hb d_P_indexedAddress_281 (by decide) ?_
                                obtain ⟨z51, hz51, hf⟩ := op_b hf
                                refine cf_i (ws2 := (cp_ aY aB aG aP aC cI cT z51.2.1 po cb ga gb gd gc gx gy gu gs z51.2.2)) X cx_P_35 hK hP hD hS hA hZ hl (c_tc_P_fetch (aY := aY) (aB := aB) (aG := aG) (aP := aP) (aC := aC) (py := py) (po := po) (cb := cb) (ga := ga) (gb := gb) (gd := gd) (gc := gc) (gx := gx) (gy := gy) (gu := gu) (gs := gs) (gp := gp) hz51) ⟨rfl, rfl, Nat.le_of_ble_eq_true rfl, Nat.le_of_ble_eq_true rfl⟩ [0, 1, 2, 3, 4] [] [0, 1, 2, 3, 4] rfl rfl rfl rfl (by decide) rfl rfl 0 rfl rfl rfl rfl rfl (Nat.le_of_ble_eq_true rfl) d_P_indexedAddress_282 (fun H locs hP hD hS => ?_)
                                refine lv_iconst (v := (1 : Int32)) hx hb d_P_indexedAddress_285 (by decide) ?_
                                obtain ⟨z52, hz52, hf⟩ := op_b hf
                                refine cf_si X cx_P_138 hK hP hD hS hA hZ hl (c_tc_C_signed (w := (cp_ aY aB aG aP aC cI cT z51.2.1 po cb ga gb gd gc gx gy gu gs z51.2.2)) hz52) ⟨rfl, rfl, Nat.le_of_ble_eq_true rfl, Nat.le_of_ble_eq_true rfl⟩ rfl rfl (Nat.le_of_ble_eq_true rfl) d_P_indexedAddress_286 (fun H locs hP hD hS => ?_)
                                refine lv_aload_n hx hb d_P_indexedAddress_289 rfl (lv_at hl 2 rfl) ?_
                                refine cp_g_P_registers_P X hK hP d_P_indexedAddress_290 ?_
                                refine cp_g_G_pc_P X hK hP d_P_indexedAddress_293 ?_
                                refine lv_iadd hx hb d_P_indexedAddress_296 ?_
                                refine lv_istore hx hb d_P_indexedAddress_297 hl (by decide) rfl (fun ls hl => ?_)
                                have hl : lv_has ls 7 [(6, .int (z52 + z51.2.2)), (5, .int (bz_i s0)), (0, .ref aP), (2, .int v2), (3, .int v3), (4, .int v4)] := hl
                                refine lv_goto (tgt := 327) hx hb d_P_indexedAddress_299 (by decide) ?_
                                exact J327 s0 (z52 + z51.2.2) z51.2.1 po cb ga gb gd gc gx gy gu gs z51.2.2 hf _ _ _ (lv_sub hl [2, 1, 0] rfl) hP hD hS
                              · replace hf := (if_neg hk50).symm.trans hf
                                by_cases hk53 : v4 = (13 : Int32)
                                · replace hf := (if_pos hk53).symm.trans hf
                                  refine lv_tableIn (tgt := 302) (off := 214) hx hb d_P_indexedAddress_88 (by rw [hk53]; decide) (by rw [hk53]; decide) (by rw [hk53]; rfl) (by decide) ?_
                                  refine lv_aload_n hx hb d_P_indexedAddress_302 rfl (lv_at hl 2 rfl) ?_
                                  refine lv_iconst (v := (2 : Int32)) hx hb d_P_indexedAddress_303 (by decide) ?_
                                  obtain ⟨z54, hz54, hf⟩ := op_b hf
                                  refine cf_i (ws2 := (cp_ aY aB aG aP aC cI cT z54.2.1 po cb ga gb gd gc gx gy gu gs z54.2.2)) X cx_P_35 hK hP hD hS hA hZ hl (c_tc_P_fetch (aY := aY) (aB := aB) (aG := aG) (aP := aP) (aC := aC) (py := py) (po := po) (cb := cb) (ga := ga) (gb := gb) (gd := gd) (gc := gc) (gx := gx) (gy := gy) (gu := gu) (gs := gs) (gp := gp) hz54) ⟨rfl, rfl, Nat.le_of_ble_eq_true rfl, Nat.le_of_ble_eq_true rfl⟩ [0, 1, 2, 3, 4] [] [0, 1, 2, 3, 4] rfl rfl rfl rfl (by decide) rfl rfl 0 rfl rfl rfl rfl rfl (Nat.le_of_ble_eq_true rfl) d_P_indexedAddress_304 (fun H locs hP hD hS => ?_)
                                  refine lv_aload_n hx hb d_P_indexedAddress_307 rfl (lv_at hl 2 rfl) ?_
                                  refine cp_g_P_registers_P X hK hP d_P_indexedAddress_308 ?_
                                  refine cp_g_G_pc_P X hK hP d_P_indexedAddress_311 ?_
                                  refine lv_iadd hx hb d_P_indexedAddress_314 ?_
                                  refine lv_istore hx hb d_P_indexedAddress_315 hl (by decide) rfl (fun ls hl => ?_)
                                  have hl : lv_has ls 7 [(6, .int (z54.1 + z54.2.2)), (5, .int (bz_i s0)), (0, .ref aP), (2, .int v2), (3, .int v3), (4, .int v4)] := hl
                                  refine lv_goto (tgt := 327) hx hb d_P_indexedAddress_317 (by decide) ?_
                                  exact J327 s0 (z54.1 + z54.2.2) z54.2.1 po cb ga gb gd gc gx gy gu gs z54.2.2 hf _ _ _ (lv_sub hl [2, 1, 0] rfl) hP hD hS
                                · replace hf := (if_neg hk53).symm.trans hf
                                  refine lv_tableOut (tgt := 320) hx hb d_P_indexedAddress_88 (by have q0 := lv_neT hk32 (show Int32.toInt (0 : Int32) = 0 by decide); have q1 := lv_neT hk33 (show Int32.toInt (1 : Int32) = 1 by decide); have q2 := lv_neT hk34 (show Int32.toInt (2 : Int32) = 2 by decide); have q3 := lv_neT hk35 (show Int32.toInt (3 : Int32) = 3 by decide); have q4 := lv_neT hk36 (show Int32.toInt (4 : Int32) = 4 by decide); have q5 := lv_neT hk37 (show Int32.toInt (5 : Int32) = 5 by decide); have q6 := lv_neT hk39 (show Int32.toInt (6 : Int32) = 6 by decide); have q7 := lv_neT hk41 (show Int32.toInt (7 : Int32) = 7 by decide); have q8 := lv_neT hk42 (show Int32.toInt (8 : Int32) = 8 by decide); have q9 := lv_neT hk45 (show Int32.toInt (9 : Int32) = 9 by decide); have q10 := lv_neT hk47 (show Int32.toInt (10 : Int32) = 10 by decide); have q11 := lv_neT hk48 (show Int32.toInt (11 : Int32) = 11 by decide); have q12 := lv_neT hk50 (show Int32.toInt (12 : Int32) = 12 by decide); have q13 := lv_neT hk53 (show Int32.toInt (13 : Int32) = 13 by decide); omega) (by decide) ?_
                                  exact J320 s0 py po cb ga gb gd gc gx gy gu gs gp hf _ _ _ (lv_sub hl [2, 1] rfl) hP hD hS
    · replace hf := (if_pos hc).symm.trans hf
      refine lv_aload_n hx hb d_P_indexedAddress_75 rfl (lv_at hl 1 rfl) ?_
      refine lv_bipush (v := (-2 : Int32)) hx hb d_P_indexedAddress_76 (by decide) ?_
      refine cp_p_P_outcome_P (x := (-2 : Int32)) X hK hP hD hS d_P_indexedAddress_78 (fun H locs hP hD hS => ?_)
      refine lv_iconst (v := (0 : Int32)) hx hb d_P_indexedAddress_81 (by decide) ?_
      have hq := Option.some.inj hf
      subst hq
      exact rt_i (r := (0 : Int32)) X hr hlk hK rfl hP hD hS d_P_indexedAddress_82
  unfold tc_P_indexedAddress at hf
  refine lv_aload_n hx hb d_P_indexedAddress_0 rfl (lv_at hl 0 rfl) ?_
  refine lv_iconst (v := (1 : Int32)) hx hb d_P_indexedAddress_1 (by decide) ?_
  obtain ⟨z55, hz55, hf⟩ := op_b hf
  refine cf_i (ws2 := (cp_ aY aB aG aP aC cI cT z55.2.1 po cb ga gb gd gc gx gy gu gs z55.2.2)) X cx_P_35 hK hP hD hS hA hZ hl (c_tc_P_fetch (aY := aY) (aB := aB) (aG := aG) (aP := aP) (aC := aC) (py := py) (po := po) (cb := cb) (ga := ga) (gb := gb) (gd := gd) (gc := gc) (gx := gx) (gy := gy) (gu := gu) (gs := gs) (gp := gp) hz55) ⟨rfl, rfl, Nat.le_of_ble_eq_true rfl, Nat.le_of_ble_eq_true rfl⟩ [0, 1, 2, 3, 4] [] [0, 1, 2, 3, 4] rfl rfl rfl rfl (by decide) rfl rfl 0 rfl rfl rfl rfl rfl (Nat.le_of_ble_eq_true rfl) d_P_indexedAddress_2 (fun H locs hP hD hS => ?_)
  refine lv_istore_n hx hb d_P_indexedAddress_5 rfl hl (by decide) rfl (fun ls hl => ?_)
  have hl : lv_has ls 7 [(1, .int z55.1), (0, .ref aP)] := hl
  refine lv_iconst (v := (1 : Int32)) hx hb d_P_indexedAddress_6 (by decide) ?_
  refine lv_iload_n hx hb d_P_indexedAddress_7 rfl (lv_at hl 0 rfl) ?_
  refine lv_iconst (v := (5 : Int32)) hx hb d_P_indexedAddress_8 (by decide) ?_
  refine lv_ishr hx hb d_P_indexedAddress_9 ?_
  refine lv_iconst (v := (3 : Int32)) hx hb d_P_indexedAddress_10 (by decide) ?_
  refine lv_iand hx hb d_P_indexedAddress_11 ?_
  refine lv_iadd hx hb d_P_indexedAddress_12 ?_
  refine lv_istore_n hx hb d_P_indexedAddress_13 rfl hl (by decide) rfl (fun ls hl => ?_)
  have hl : lv_has ls 7 [(2, .int ((1 : Int32) + ((z55.1 >>> ((5 : Int32) &&& 31)) &&& (3 : Int32)))), (1, .int z55.1), (0, .ref aP)] := hl
  refine lv_aload_n hx hb d_P_indexedAddress_14 rfl (lv_at hl 2 rfl) ?_
  refine cp_g_P_registers_P X hK hP d_P_indexedAddress_15 ?_
  refine lv_iload_n hx hb d_P_indexedAddress_18 rfl (lv_at hl 0 rfl) ?_
  obtain ⟨z56, hz56, hf⟩ := op_b hf
  refine cf_i (ws2 := (cp_ aY aB aG aP aC cI cT z55.2.1 po cb ga gb gd gc gx gy gu gs z55.2.2)) X cx_P_100 hK hP hD hS hA hZ hl (c_tc_G_get (aG := aG) (ga := ga) (gb := gb) (gd := gd) (gc := gc) (gx := gx) (gy := gy) (gu := gu) (gs := gs) (gp := z55.2.2) hz56) ⟨rfl, rfl, Nat.le_of_ble_eq_true rfl, Nat.le_of_ble_eq_true rfl⟩ [3] [0, 1, 2, 4] [0, 1, 2, 4, 3] rfl rfl rfl rfl (by decide) rfl rfl 0 rfl rfl rfl rfl rfl (Nat.le_of_ble_eq_true rfl) d_P_indexedAddress_19 (fun H locs hP hD hS => ?_)
  refine lv_istore_n hx hb d_P_indexedAddress_22 rfl hl (by decide) rfl (fun ls hl => ?_)
  have hl : lv_has ls 7 [(3, .int z56), (2, .int ((1 : Int32) + ((z55.1 >>> ((5 : Int32) &&& 31)) &&& (3 : Int32)))), (1, .int z55.1), (0, .ref aP)] := hl
  refine lv_iload_n hx hb d_P_indexedAddress_23 rfl (lv_at hl 2 rfl) ?_
  refine lv_sipush (v := (128 : Int32)) hx hb d_P_indexedAddress_24 (by decide) ?_
  refine lv_icmp_ge (tgt := 45) hx hb d_P_indexedAddress_27 (by decide) (fun hc => ?_) (fun hc => ?_)
  · replace hf := (if_pos hc).symm.trans hf
    refine lv_iload_n hx hb d_P_indexedAddress_45 rfl (lv_at hl 2 rfl) ?_
    refine lv_bipush (v := (15 : Int32)) hx hb d_P_indexedAddress_46 (by decide) ?_
    refine lv_iand hx hb d_P_indexedAddress_48 ?_
    refine lv_istore hx hb d_P_indexedAddress_49 hl (by decide) rfl (fun ls hl => ?_)
    have hl : lv_has ls 7 [(4, .int (z55.1 &&& (15 : Int32))), (3, .int z56), (2, .int ((1 : Int32) + ((z55.1 >>> ((5 : Int32) &&& 31)) &&& (3 : Int32)))), (1, .int z55.1), (0, .ref aP)] := hl
    refine lv_iload_n hx hb d_P_indexedAddress_51 rfl (lv_at hl 3 rfl) ?_
    refine lv_bipush (v := (16 : Int32)) hx hb d_P_indexedAddress_52 (by decide) ?_
    refine lv_iand hx hb d_P_indexedAddress_54 ?_
    refine lv_if_eq (tgt := 62) hx hb d_P_indexedAddress_55 (by decide) (fun hc => ?_) (fun hc => ?_)
    · replace hf := (if_pos hc).symm.trans hf
      refine lv_iconst (v := (0 : Int32)) hx hb d_P_indexedAddress_62 (by decide) ?_
      exact J63 ((1 : Int32) + ((z55.1 >>> ((5 : Int32) &&& 31)) &&& (3 : Int32))) z56 (z55.1 &&& (15 : Int32)) false z55.2.1 po cb ga gb gd gc gx gy gu gs z55.2.2 hf _ _ _ (lv_sub hl [4, 2, 1, 0] rfl) hP hD hS
    · replace hf := (if_neg hc).symm.trans hf
      refine lv_iconst (v := (1 : Int32)) hx hb d_P_indexedAddress_58 (by decide) ?_
      refine lv_goto (tgt := 63) hx hb d_P_indexedAddress_59 (by decide) ?_
      exact J63 ((1 : Int32) + ((z55.1 >>> ((5 : Int32) &&& 31)) &&& (3 : Int32))) z56 (z55.1 &&& (15 : Int32)) true z55.2.1 po cb ga gb gd gc gx gy gu gs z55.2.2 hf _ _ _ (lv_sub hl [4, 2, 1, 0] rfl) hP hD hS
  · replace hf := (if_neg hc).symm.trans hf
    refine lv_iload_n hx hb d_P_indexedAddress_30 rfl (lv_at hl 0 rfl) ?_
    refine lv_iload_n hx hb d_P_indexedAddress_31 rfl (lv_at hl 2 rfl) ?_
    refine lv_bipush (v := (15 : Int32)) hx hb d_P_indexedAddress_32 (by decide) ?_
    refine lv_iand hx hb d_P_indexedAddress_34 ?_
    refine lv_iadd hx hb d_P_indexedAddress_35 ?_
    refine lv_iload_n hx hb d_P_indexedAddress_36 rfl (lv_at hl 2 rfl) ?_
    refine lv_bipush (v := (16 : Int32)) hx hb d_P_indexedAddress_37 (by decide) ?_
    refine lv_iand hx hb d_P_indexedAddress_39 ?_
    refine lv_isub hx hb d_P_indexedAddress_40 ?_
    refine lv_ldc (v := (65535 : Int32)) hx hb X.2.2.2.1 (X.2.2.2.2 _ ww_4) d_P_indexedAddress_41 ?_
    refine lv_iand hx hb d_P_indexedAddress_43 ?_
    have hq := Option.some.inj hf
    subst hq
    exact rt_i (r := (((z56 + (z55.1 &&& (15 : Int32))) - (z55.1 &&& (16 : Int32))) &&& (65535 : Int32))) X hr hlk hK rfl hP hD hS d_P_indexedAddress_44
set_option maxHeartbeats 4000000 in
set_option maxRecDepth 100000 in
theorem c_tc_P_operandAddress {x1 : Int32} {x2 : Int32} {z : Int32 × Int32 × Int32 × Int32 × Int32 × Int32 × Int32 × Int32 × Int32 × Int32 × Int32 × Int32} (hf : tc_P_operandAddress x1 x2 py po cb ga gb gd gc gx gy gu gs gp = some z) : cs_i l my_P_operandAddress mb_P_operandAddress 4 .int rm_c_P_operandAddress D (ty_ cI cT) [.ref aP, .int x1, .int x2] (cp_ aY aB aG aP aC cI cT py po cb ga gb gd gc gx gy gu gs gp) (cp_ aY aB aG aP aC cI cT z.2.1 z.2.2.1 cb z.2.2.2.1 z.2.2.2.2.1 z.2.2.2.2.2.1 z.2.2.2.2.2.2.1 z.2.2.2.2.2.2.2.1 z.2.2.2.2.2.2.2.2.1 z.2.2.2.2.2.2.2.2.2.1 z.2.2.2.2.2.2.2.2.2.2.1 z.2.2.2.2.2.2.2.2.2.2.2) z.1 := by
  refine cs_i_of (by decide) (Nat.le_of_ble_eq_true rfl) ?_
  intro p e s m below meth c A ls X hr hlk hK hP hD hS hA hZ hl
  have hx := X.1
  have hb := X.2.1
  have hl : lv_has ls 4 [(0, .ref aP), (1, .int x1), (2, .int x2)] := hl
  unfold tc_P_operandAddress at hf
  refine lv_iload_n hx hb d_P_operandAddress_0 rfl (lv_at hl 1 rfl) ?_
  by_cases hk5 : x1 = (0 : Int32)
  · replace hf := (if_pos hk5).symm.trans hf
    refine lv_tableIn (tgt := 28) (off := 27) hx hb d_P_operandAddress_1 (by rw [hk5]; decide) (by rw [hk5]; decide) (by rw [hk5]; rfl) (by decide) ?_
    refine lv_aload_n hx hb d_P_operandAddress_28 rfl (lv_at hl 0 rfl) ?_
    refine cp_g_P_registers_P X hK hP d_P_operandAddress_29 ?_
    refine cp_g_G_pc_P X hK hP d_P_operandAddress_32 ?_
    refine lv_istore_n hx hb d_P_operandAddress_35 rfl hl (by decide) rfl (fun ls hl => ?_)
    have hl : lv_has ls 4 [(3, .int gp), (0, .ref aP), (1, .int x1), (2, .int x2)] := hl
    refine lv_aload_n hx hb d_P_operandAddress_36 rfl (lv_at hl 1 rfl) ?_
    refine lv_iload_n hx hb d_P_operandAddress_37 rfl (lv_at hl 3 rfl) ?_
    obtain ⟨z6, hz6, hf⟩ := op_b hf
    refine cf_v (ws2 := (cp_ aY aB aG aP aC cI cT py po cb ga gb gd gc gx gy gu gs z6)) X cx_P_73 hK hP hD hS hA hZ hl (c_tc_P_skip (aY := aY) (aB := aB) (aG := aG) (aP := aP) (aC := aC) (py := py) (po := po) (cb := cb) (ga := ga) (gb := gb) (gd := gd) (gc := gc) (gx := gx) (gy := gy) (gu := gu) (gs := gs) (gp := gp) hz6) ⟨rfl, rfl, Nat.le_of_ble_eq_true rfl, Nat.le_of_ble_eq_true rfl⟩ [0, 1, 2, 3, 4] [] [0, 1, 2, 3, 4] rfl rfl rfl rfl (by decide) rfl rfl 0 rfl rfl rfl rfl rfl (Nat.le_of_ble_eq_true rfl) d_P_operandAddress_38 (fun H locs hP hD hS => ?_)
    refine lv_iload_n hx hb d_P_operandAddress_41 rfl (lv_at hl 0 rfl) ?_
    have hq := Option.some.inj hf
    subst hq
    exact rt_i (r := gp) X hr hlk hK rfl hP hD hS d_P_operandAddress_42
  · replace hf := (if_neg hk5).symm.trans hf
    by_cases hk7 : x1 = (1 : Int32)
    · replace hf := (if_pos hk7).symm.trans hf
      refine lv_tableIn (tgt := 43) (off := 42) hx hb d_P_operandAddress_1 (by rw [hk7]; decide) (by rw [hk7]; decide) (by rw [hk7]; rfl) (by decide) ?_
      refine lv_aload_n hx hb d_P_operandAddress_43 rfl (lv_at hl 0 rfl) ?_
      refine cp_g_P_registers_P X hK hP d_P_operandAddress_44 ?_
      refine cp_g_G_dp_P X hK hP d_P_operandAddress_47 ?_
      refine lv_bipush (v := (8 : Int32)) hx hb d_P_operandAddress_50 (by decide) ?_
      refine lv_ishl hx hb d_P_operandAddress_52 ?_
      refine lv_aload_n hx hb d_P_operandAddress_53 rfl (lv_at hl 0 rfl) ?_
      refine lv_iconst (v := (1 : Int32)) hx hb d_P_operandAddress_54 (by decide) ?_
      obtain ⟨z8, hz8, hf⟩ := op_b hf
      refine cf_i (ws2 := (cp_ aY aB aG aP aC cI cT z8.2.1 po cb ga gb gd gc gx gy gu gs z8.2.2)) X cx_P_35 hK hP hD hS hA hZ hl (c_tc_P_fetch (aY := aY) (aB := aB) (aG := aG) (aP := aP) (aC := aC) (py := py) (po := po) (cb := cb) (ga := ga) (gb := gb) (gd := gd) (gc := gc) (gx := gx) (gy := gy) (gu := gu) (gs := gs) (gp := gp) hz8) ⟨rfl, rfl, Nat.le_of_ble_eq_true rfl, Nat.le_of_ble_eq_true rfl⟩ [0, 1, 2, 3, 4] [] [0, 1, 2, 3, 4] rfl rfl rfl rfl (by decide) rfl rfl 0 rfl rfl rfl rfl rfl (Nat.le_of_ble_eq_true rfl) d_P_operandAddress_55 (fun H locs hP hD hS => ?_)
      refine lv_ior hx hb d_P_operandAddress_58 ?_
      have hq := Option.some.inj hf
      subst hq
      exact rt_i (r := ((gd <<< ((8 : Int32) &&& 31)) ||| z8.1)) X hr hlk hK rfl hP hD hS d_P_operandAddress_59
    · replace hf := (if_neg hk7).symm.trans hf
      by_cases hk9 : x1 = (2 : Int32)
      · replace hf := (if_pos hk9).symm.trans hf
        refine lv_tableIn (tgt := 60) (off := 59) hx hb d_P_operandAddress_1 (by rw [hk9]; decide) (by rw [hk9]; decide) (by rw [hk9]; rfl) (by decide) ?_
        refine lv_aload_n hx hb d_P_operandAddress_60 rfl (lv_at hl 0 rfl) ?_
        obtain ⟨z10, hz10, hf⟩ := op_b hf
        refine cf_i (ws2 := (cp_ aY aB aG aP aC cI cT z10.2.1 z10.2.2.1 cb z10.2.2.2.1 z10.2.2.2.2.1 z10.2.2.2.2.2.1 z10.2.2.2.2.2.2.1 z10.2.2.2.2.2.2.2.1 z10.2.2.2.2.2.2.2.2.1 z10.2.2.2.2.2.2.2.2.2.1 z10.2.2.2.2.2.2.2.2.2.2.1 z10.2.2.2.2.2.2.2.2.2.2.2)) X cx_P_128 hK hP hD hS hA hZ hl (c_tc_P_indexedAddress (aY := aY) (aB := aB) (aG := aG) (aP := aP) (aC := aC) (py := py) (po := po) (cb := cb) (ga := ga) (gb := gb) (gd := gd) (gc := gc) (gx := gx) (gy := gy) (gu := gu) (gs := gs) (gp := gp) hz10) ⟨rfl, rfl, Nat.le_of_ble_eq_true rfl, Nat.le_of_ble_eq_true rfl⟩ [0, 1, 2, 3, 4] [] [0, 1, 2, 3, 4] rfl rfl rfl rfl (by decide) rfl rfl 0 rfl rfl rfl rfl rfl (Nat.le_of_ble_eq_true rfl) d_P_operandAddress_61 (fun H locs hP hD hS => ?_)
        have hq := Option.some.inj hf
        subst hq
        exact rt_i (r := z10.1) X hr hlk hK rfl hP hD hS d_P_operandAddress_64
      · replace hf := (if_neg hk9).symm.trans hf
        refine lv_tableOut (tgt := 65) hx hb d_P_operandAddress_1 (by have q0 := lv_neT hk5 (show Int32.toInt (0 : Int32) = 0 by decide); have q1 := lv_neT hk7 (show Int32.toInt (1 : Int32) = 1 by decide); have q2 := lv_neT hk9 (show Int32.toInt (2 : Int32) = 2 by decide); omega) (by decide) ?_
        refine lv_aload_n hx hb d_P_operandAddress_65 rfl (lv_at hl 0 rfl) ?_
        refine lv_iconst (v := (2 : Int32)) hx hb d_P_operandAddress_66 (by decide) ?_
        obtain ⟨z11, hz11, hf⟩ := op_b hf
        refine cf_i (ws2 := (cp_ aY aB aG aP aC cI cT z11.2.1 po cb ga gb gd gc gx gy gu gs z11.2.2)) X cx_P_35 hK hP hD hS hA hZ hl (c_tc_P_fetch (aY := aY) (aB := aB) (aG := aG) (aP := aP) (aC := aC) (py := py) (po := po) (cb := cb) (ga := ga) (gb := gb) (gd := gd) (gc := gc) (gx := gx) (gy := gy) (gu := gu) (gs := gs) (gp := gp) hz11) ⟨rfl, rfl, Nat.le_of_ble_eq_true rfl, Nat.le_of_ble_eq_true rfl⟩ [0, 1, 2, 3, 4] [] [0, 1, 2, 3, 4] rfl rfl rfl rfl (by decide) rfl rfl 0 rfl rfl rfl rfl rfl (Nat.le_of_ble_eq_true rfl) d_P_operandAddress_67 (fun H locs hP hD hS => ?_)
        have hq := Option.some.inj hf
        subst hq
        exact rt_i (r := z11.1) X hr hlk hK rfl hP hD hS d_P_operandAddress_70
set_option maxHeartbeats 4000000 in
set_option maxRecDepth 100000 in
theorem c_tc_P_isChange {x1 : Int32} {z : Bool} (hf : tc_P_isChange x1 = some z) : cs_i l my_P_isChange mb_P_isChange 1 .boolean rm_c_P_isChange D (ty_ cI cT) [.int x1] w w (bz_i z) := by
  refine cs_i_of (by decide) (Nat.le_of_ble_eq_true rfl) ?_
  intro p e s m below meth c A ls X hr hlk hK hP hD hS hA hZ hl
  have hx := X.1
  have hb := X.2.1
  have hl : lv_has ls 1 [(0, .int x1)] := hl
  unfold tc_P_isChange at hf
  refine lv_iload_n hx hb d_P_isChange_0 rfl (lv_at hl 0 rfl) ?_
  refine lv_iconst (v := (1 : Int32)) hx hb d_P_isChange_1 (by decide) ?_
  refine lv_icmp_eq (tgt := 31) hx hb d_P_isChange_2 (by decide) (fun hc => ?_) (fun hc => ?_)
  · replace hf := (if_pos hc).symm.trans hf
    refine lv_iconst (v := (0 : Int32)) hx hb d_P_isChange_31 (by decide) ?_
    have hq := Option.some.inj hf
    subst hq
    exact rt_i (r := bz_i false) X hr hlk hK (bz_n _) hP hD hS d_P_isChange_32
  · replace hf := (if_neg hc).symm.trans hf
    refine lv_iload_n hx hb d_P_isChange_5 rfl (lv_at hl 0 rfl) ?_
    refine lv_iconst (v := (2 : Int32)) hx hb d_P_isChange_6 (by decide) ?_
    refine lv_icmp_eq (tgt := 31) hx hb d_P_isChange_7 (by decide) (fun hc => ?_) (fun hc => ?_)
    · replace hf := (if_pos hc).symm.trans hf
      refine lv_iconst (v := (0 : Int32)) hx hb d_P_isChange_31 (by decide) ?_
      have hq := Option.some.inj hf
      subst hq
      exact rt_i (r := bz_i false) X hr hlk hK (bz_n _) hP hD hS d_P_isChange_32
    · replace hf := (if_neg hc).symm.trans hf
      refine lv_iload_n hx hb d_P_isChange_10 rfl (lv_at hl 0 rfl) ?_
      refine lv_iconst (v := (5 : Int32)) hx hb d_P_isChange_11 (by decide) ?_
      refine lv_icmp_eq (tgt := 31) hx hb d_P_isChange_12 (by decide) (fun hc => ?_) (fun hc => ?_)
      · replace hf := (if_pos hc).symm.trans hf
        refine lv_iconst (v := (0 : Int32)) hx hb d_P_isChange_31 (by decide) ?_
        have hq := Option.some.inj hf
        subst hq
        exact rt_i (r := bz_i false) X hr hlk hK (bz_n _) hP hD hS d_P_isChange_32
      · replace hf := (if_neg hc).symm.trans hf
        refine lv_iload_n hx hb d_P_isChange_15 rfl (lv_at hl 0 rfl) ?_
        refine lv_bipush (v := (11 : Int32)) hx hb d_P_isChange_16 (by decide) ?_
        refine lv_icmp_eq (tgt := 31) hx hb d_P_isChange_18 (by decide) (fun hc => ?_) (fun hc => ?_)
        · replace hf := (if_pos hc).symm.trans hf
          refine lv_iconst (v := (0 : Int32)) hx hb d_P_isChange_31 (by decide) ?_
          have hq := Option.some.inj hf
          subst hq
          exact rt_i (r := bz_i false) X hr hlk hK (bz_n _) hP hD hS d_P_isChange_32
        · replace hf := (if_neg hc).symm.trans hf
          refine lv_iload_n hx hb d_P_isChange_21 rfl (lv_at hl 0 rfl) ?_
          refine lv_bipush (v := (14 : Int32)) hx hb d_P_isChange_22 (by decide) ?_
          refine lv_icmp_eq (tgt := 31) hx hb d_P_isChange_24 (by decide) (fun hc => ?_) (fun hc => ?_)
          · replace hf := (if_pos hc).symm.trans hf
            refine lv_iconst (v := (0 : Int32)) hx hb d_P_isChange_31 (by decide) ?_
            have hq := Option.some.inj hf
            subst hq
            exact rt_i (r := bz_i false) X hr hlk hK (bz_n _) hP hD hS d_P_isChange_32
          · replace hf := (if_neg hc).symm.trans hf
            refine lv_iconst (v := (1 : Int32)) hx hb d_P_isChange_27 (by decide) ?_
            refine lv_goto (tgt := 32) hx hb d_P_isChange_28 (by decide) ?_
            have hq := Option.some.inj hf
            subst hq
            exact rt_i (r := bz_i true) X hr hlk hK (bz_n _) hP hD hS d_P_isChange_32
set_option maxHeartbeats 4000000 in
set_option maxRecDepth 100000 in
theorem c_tc_P_changed {x1 : Int32} {x2 : Int32} {z : Int32 × Int32} (hf : tc_P_changed x1 x2 gc = some z) : cs_i l my_P_changed mb_P_changed 3 .int rm_c_P_changed D (ty_ cI cT) [.ref aP, .int x1, .int x2] (cp_ aY aB aG aP aC cI cT py po cb ga gb gd gc gx gy gu gs gp) (cp_ aY aB aG aP aC cI cT py po cb ga gb gd z.2 gx gy gu gs gp) z.1 := by
  refine cs_i_of (by decide) (Nat.le_of_ble_eq_true rfl) ?_
  intro p e s m below meth c A ls X hr hlk hK hP hD hS hA hZ hl
  have hx := X.1
  have hb := X.2.1
  have hl : lv_has ls 3 [(0, .ref aP), (1, .int x1), (2, .int x2)] := hl
  have J195 : ∀ (gc : Int32), tc_P_changed_j195 gc = some z → ∀ (H : Heap) (locs : List Loc) (ls : Array Slot), lv_has ls 3 [(0, .ref aP)] → va_P D cz_all (cp_ aY aB aG aP aC cI cT py po cb ga gb gd gc gx gy gu gs gp) H → va_D A (cp_ aY aB aG aP aC cI cT py po cb ga gb gd gc gx gy gu gs gp) → va_S A s.heap H locs → W p l e rm_c_P_changed s m ([.ref aP, .int x1, .int x2] : List Value).toArray below meth c H locs 0 0 (MQ below (qs_i D (ty_ cI cT) (cp_ aY aB aG aP aC cI cT py po cb ga gb gd z.2 gx gy gu gs gp) z.1 A) ([.ref aP, .int x1, .int x2] : List Value).toArray s 0 0 A) (F0 m 195 ls []) := by
    intro gc hf H locs ls hl hP hD hS
    unfold tc_P_changed_j195 at hf
    refine lv_aload_n hx hb d_P_changed_195 rfl (lv_at hl 0 rfl) ?_
    refine cp_g_P_calculator_P X hK hP d_P_changed_196 ?_
    refine lv_iconst (v := (0 : Int32)) hx hb d_P_changed_199 (by decide) ?_
    refine lv_iconst (v := (0 : Int32)) hx hb d_P_changed_200 (by decide) ?_
    obtain ⟨z14, hz14, hf⟩ := op_b hf
    refine cf_i (ws2 := (cp_ aY aB aG aP aC cI cT py po cb ga gb gd z14.2 gx gy gu gs gp)) X cx_P_153 hK hP hD hS hA hZ hl (c_tc_C_plainWithCarry (aG := aG) (aC := aC) (ga := ga) (gb := gb) (gd := gd) (gc := gc) (gx := gx) (gy := gy) (gu := gu) (gs := gs) (gp := gp) hz14) ⟨rfl, rfl, Nat.le_of_ble_eq_true rfl, Nat.le_of_ble_eq_true rfl⟩ [4, 3] [0, 1, 2] [0, 1, 2, 4, 3] rfl rfl rfl rfl (by decide) rfl rfl 0 rfl rfl rfl rfl rfl (Nat.le_of_ble_eq_true rfl) d_P_changed_201 (fun H locs hP hD hS => ?_)
    have hq := Option.some.inj hf
    subst hq
    exact rt_i (r := z14.1) X hr hlk hK rfl hP hD hS d_P_changed_204
  unfold tc_P_changed at hf
  refine lv_iload_n hx hb d_P_changed_0 rfl (lv_at hl 1 rfl) ?_
  by_cases hk15 : x1 = (0 : Int32)
  · replace hf := (if_pos hk15).symm.trans hf
    refine lv_tableIn (tgt := 72) (off := 71) hx hb d_P_changed_1 (by rw [hk15]; decide) (by rw [hk15]; decide) (by rw [hk15]; rfl) (by decide) ?_
    refine lv_aload_n hx hb d_P_changed_72 rfl (lv_at hl 0 rfl) ?_
    refine cp_g_P_calculator_P X hK hP d_P_changed_73 ?_
    refine lv_iconst (v := (0 : Int32)) hx hb d_P_changed_76 (by decide) ?_
    refine lv_iload_n hx hb d_P_changed_77 rfl (lv_at hl 2 rfl) ?_
    refine lv_iconst (v := (0 : Int32)) hx hb d_P_changed_78 (by decide) ?_
    refine lv_iconst (v := (1 : Int32)) hx hb d_P_changed_79 (by decide) ?_
    obtain ⟨z16, hz16, hf⟩ := op_b hf
    refine cf_i (ws2 := (cp_ aY aB aG aP aC cI cT py po cb ga gb gd z16.2 gx gy gu gs gp)) X cx_P_115 hK hP hD hS hA hZ hl (c_tc_C_difference (aG := aG) (aC := aC) (ga := ga) (gb := gb) (gd := gd) (gc := gc) (gx := gx) (gy := gy) (gu := gu) (gs := gs) (gp := gp) hz16) ⟨rfl, rfl, Nat.le_of_ble_eq_true rfl, Nat.le_of_ble_eq_true rfl⟩ [4, 3] [0, 1, 2] [0, 1, 2, 4, 3] rfl rfl rfl rfl (by decide) rfl rfl 0 rfl rfl rfl rfl rfl (Nat.le_of_ble_eq_true rfl) d_P_changed_80 (fun H locs hP hD hS => ?_)
    have hq := Option.some.inj hf
    subst hq
    exact rt_i (r := z16.1) X hr hlk hK rfl hP hD hS d_P_changed_83
  · replace hf := (if_neg hk15).symm.trans hf
    by_cases hk17 : x1 = (1 : Int32)
    · replace hf := (if_pos hk17).symm.trans hf
      refine lv_tableIn (tgt := 195) (off := 194) hx hb d_P_changed_1 (by rw [hk17]; decide) (by rw [hk17]; decide) (by rw [hk17]; rfl) (by decide) ?_
      exact J195 gc hf _ _ _ (lv_sub hl [0] rfl) hP hD hS
    · replace hf := (if_neg hk17).symm.trans hf
      by_cases hk18 : x1 = (2 : Int32)
      · replace hf := (if_pos hk18).symm.trans hf
        refine lv_tableIn (tgt := 195) (off := 194) hx hb d_P_changed_1 (by rw [hk18]; decide) (by rw [hk18]; decide) (by rw [hk18]; rfl) (by decide) ?_
        exact J195 gc hf _ _ _ (lv_sub hl [0] rfl) hP hD hS
      · replace hf := (if_neg hk18).symm.trans hf
        by_cases hk19 : x1 = (3 : Int32)
        · replace hf := (if_pos hk19).symm.trans hf
          refine lv_tableIn (tgt := 84) (off := 83) hx hb d_P_changed_1 (by rw [hk19]; decide) (by rw [hk19]; decide) (by rw [hk19]; rfl) (by decide) ?_
          refine lv_aload_n hx hb d_P_changed_84 rfl (lv_at hl 0 rfl) ?_
          refine cp_g_P_calculator_P X hK hP d_P_changed_85 ?_
          refine lv_iload_n hx hb d_P_changed_88 rfl (lv_at hl 2 rfl) ?_
          refine lv_sipush (v := (255 : Int32)) hx hb d_P_changed_89 (by decide) ?_
          refine lv_ixor hx hb d_P_changed_92 ?_
          refine lv_iconst (v := (1 : Int32)) hx hb d_P_changed_93 (by decide) ?_
          obtain ⟨z20, hz20, hf⟩ := op_b hf
          refine cf_i (ws2 := (cp_ aY aB aG aP aC cI cT py po cb ga gb gd z20.2 gx gy gu gs gp)) X cx_P_153 hK hP hD hS hA hZ hl (c_tc_C_plainWithCarry (aG := aG) (aC := aC) (ga := ga) (gb := gb) (gd := gd) (gc := gc) (gx := gx) (gy := gy) (gu := gu) (gs := gs) (gp := gp) hz20) ⟨rfl, rfl, Nat.le_of_ble_eq_true rfl, Nat.le_of_ble_eq_true rfl⟩ [4, 3] [0, 1, 2] [0, 1, 2, 4, 3] rfl rfl rfl rfl (by decide) rfl rfl 0 rfl rfl rfl rfl rfl (Nat.le_of_ble_eq_true rfl) d_P_changed_94 (fun H locs hP hD hS => ?_)
          have hq := Option.some.inj hf
          subst hq
          exact rt_i (r := z20.1) X hr hlk hK rfl hP hD hS d_P_changed_97
        · replace hf := (if_neg hk19).symm.trans hf
          by_cases hk21 : x1 = (4 : Int32)
          · replace hf := (if_pos hk21).symm.trans hf
            refine lv_tableIn (tgt := 98) (off := 97) hx hb d_P_changed_1 (by rw [hk21]; decide) (by rw [hk21]; decide) (by rw [hk21]; rfl) (by decide) ?_
            refine lv_aload_n hx hb d_P_changed_98 rfl (lv_at hl 0 rfl) ?_
            refine cp_g_P_calculator_P X hK hP d_P_changed_99 ?_
            refine lv_iload_n hx hb d_P_changed_102 rfl (lv_at hl 2 rfl) ?_
            refine lv_iconst (v := (0 : Int32)) hx hb d_P_changed_103 (by decide) ?_
            obtain ⟨z22, hz22, hf⟩ := op_b hf
            refine cf_i (ws2 := (cp_ aY aB aG aP aC cI cT py po cb ga gb gd z22.2 gx gy gu gs gp)) X cx_P_156 hK hP hD hS hA hZ hl (c_tc_C_shiftRight (aG := aG) (aC := aC) (ga := ga) (gb := gb) (gd := gd) (gc := gc) (gx := gx) (gy := gy) (gu := gu) (gs := gs) (gp := gp) hz22) ⟨rfl, rfl, Nat.le_of_ble_eq_true rfl, Nat.le_of_ble_eq_true rfl⟩ [4, 3] [0, 1, 2] [0, 1, 2, 4, 3] rfl rfl rfl rfl (by decide) rfl rfl 0 rfl rfl rfl rfl rfl (Nat.le_of_ble_eq_true rfl) d_P_changed_104 (fun H locs hP hD hS => ?_)
            have hq := Option.some.inj hf
            subst hq
            exact rt_i (r := z22.1) X hr hlk hK rfl hP hD hS d_P_changed_107
          · replace hf := (if_neg hk21).symm.trans hf
            by_cases hk23 : x1 = (5 : Int32)
            · replace hf := (if_pos hk23).symm.trans hf
              refine lv_tableIn (tgt := 195) (off := 194) hx hb d_P_changed_1 (by rw [hk23]; decide) (by rw [hk23]; decide) (by rw [hk23]; rfl) (by decide) ?_
              exact J195 gc hf _ _ _ (lv_sub hl [0] rfl) hP hD hS
            · replace hf := (if_neg hk23).symm.trans hf
              by_cases hk24 : x1 = (6 : Int32)
              · replace hf := (if_pos hk24).symm.trans hf
                refine lv_tableIn (tgt := 108) (off := 107) hx hb d_P_changed_1 (by rw [hk24]; decide) (by rw [hk24]; decide) (by rw [hk24]; rfl) (by decide) ?_
                refine lv_aload_n hx hb d_P_changed_108 rfl (lv_at hl 0 rfl) ?_
                refine cp_g_P_calculator_P X hK hP d_P_changed_109 ?_
                refine lv_iload_n hx hb d_P_changed_112 rfl (lv_at hl 2 rfl) ?_
                refine lv_aload_n hx hb d_P_changed_113 rfl (lv_at hl 0 rfl) ?_
                refine cp_g_P_calculator_P X hK hP d_P_changed_114 ?_
                obtain ⟨z25, hz25, hf⟩ := op_b hf
                refine cf_i (ws2 := (cp_ aY aB aG aP aC cI cT py po cb ga gb gd gc gx gy gu gs gp)) X cx_P_118 hK hP hD hS hA hZ hl (c_tc_C_carry (aG := aG) (aC := aC) (ga := ga) (gb := gb) (gd := gd) (gc := gc) (gx := gx) (gy := gy) (gu := gu) (gs := gs) (gp := gp) hz25) ⟨rfl, rfl, Nat.le_of_ble_eq_true rfl, Nat.le_of_ble_eq_true rfl⟩ [4, 3] [0, 1, 2] [0, 1, 2, 4, 3] rfl rfl rfl rfl (by decide) rfl rfl 0 rfl rfl rfl rfl rfl (Nat.le_of_ble_eq_true rfl) d_P_changed_117 (fun H locs hP hD hS => ?_)
                refine lv_bipush (v := (7 : Int32)) hx hb d_P_changed_120 (by decide) ?_
                refine lv_ishl hx hb d_P_changed_122 ?_
                obtain ⟨z26, hz26, hf⟩ := op_b hf
                refine cf_i (ws2 := (cp_ aY aB aG aP aC cI cT py po cb ga gb gd z26.2 gx gy gu gs gp)) X cx_P_156 hK hP hD hS hA hZ hl (c_tc_C_shiftRight (aG := aG) (aC := aC) (ga := ga) (gb := gb) (gd := gd) (gc := gc) (gx := gx) (gy := gy) (gu := gu) (gs := gs) (gp := gp) hz26) ⟨rfl, rfl, Nat.le_of_ble_eq_true rfl, Nat.le_of_ble_eq_true rfl⟩ [4, 3] [0, 1, 2] [0, 1, 2, 4, 3] rfl rfl rfl rfl (by decide) rfl rfl 0 rfl rfl rfl rfl rfl (Nat.le_of_ble_eq_true rfl) d_P_changed_123 (fun H locs hP hD hS => ?_)
                have hq := Option.some.inj hf
                subst hq
                exact rt_i (r := z26.1) X hr hlk hK rfl hP hD hS d_P_changed_126
              · replace hf := (if_neg hk24).symm.trans hf
                by_cases hk27 : x1 = (7 : Int32)
                · replace hf := (if_pos hk27).symm.trans hf
                  refine lv_tableIn (tgt := 127) (off := 126) hx hb d_P_changed_1 (by rw [hk27]; decide) (by rw [hk27]; decide) (by rw [hk27]; rfl) (by decide) ?_
                  refine lv_aload_n hx hb d_P_changed_127 rfl (lv_at hl 0 rfl) ?_
                  refine cp_g_P_calculator_P X hK hP d_P_changed_128 ?_
                  refine lv_iload_n hx hb d_P_changed_131 rfl (lv_at hl 2 rfl) ?_
                  refine lv_iload_n hx hb d_P_changed_132 rfl (lv_at hl 2 rfl) ?_
                  refine lv_sipush (v := (128 : Int32)) hx hb d_P_changed_133 (by decide) ?_
                  refine lv_iand hx hb d_P_changed_136 ?_
                  obtain ⟨z28, hz28, hf⟩ := op_b hf
                  refine cf_i (ws2 := (cp_ aY aB aG aP aC cI cT py po cb ga gb gd z28.2 gx gy gu gs gp)) X cx_P_156 hK hP hD hS hA hZ hl (c_tc_C_shiftRight (aG := aG) (aC := aC) (ga := ga) (gb := gb) (gd := gd) (gc := gc) (gx := gx) (gy := gy) (gu := gu) (gs := gs) (gp := gp) hz28) ⟨rfl, rfl, Nat.le_of_ble_eq_true rfl, Nat.le_of_ble_eq_true rfl⟩ [4, 3] [0, 1, 2] [0, 1, 2, 4, 3] rfl rfl rfl rfl (by decide) rfl rfl 0 rfl rfl rfl rfl rfl (Nat.le_of_ble_eq_true rfl) d_P_changed_137 (fun H locs hP hD hS => ?_)
                  have hq := Option.some.inj hf
                  subst hq
                  exact rt_i (r := z28.1) X hr hlk hK rfl hP hD hS d_P_changed_140
                · replace hf := (if_neg hk27).symm.trans hf
                  by_cases hk29 : x1 = (8 : Int32)
                  · replace hf := (if_pos hk29).symm.trans hf
                    refine lv_tableIn (tgt := 141) (off := 140) hx hb d_P_changed_1 (by rw [hk29]; decide) (by rw [hk29]; decide) (by rw [hk29]; rfl) (by decide) ?_
                    refine lv_aload_n hx hb d_P_changed_141 rfl (lv_at hl 0 rfl) ?_
                    refine cp_g_P_calculator_P X hK hP d_P_changed_142 ?_
                    refine lv_iload_n hx hb d_P_changed_145 rfl (lv_at hl 2 rfl) ?_
                    refine lv_iconst (v := (0 : Int32)) hx hb d_P_changed_146 (by decide) ?_
                    obtain ⟨z30, hz30, hf⟩ := op_b hf
                    refine cf_i (ws2 := (cp_ aY aB aG aP aC cI cT py po cb ga gb gd z30.2 gx gy gu gs gp)) X cx_P_159 hK hP hD hS hA hZ hl (c_tc_C_shiftLeft (aG := aG) (aC := aC) (ga := ga) (gb := gb) (gd := gd) (gc := gc) (gx := gx) (gy := gy) (gu := gu) (gs := gs) (gp := gp) hz30) ⟨rfl, rfl, Nat.le_of_ble_eq_true rfl, Nat.le_of_ble_eq_true rfl⟩ [4, 3] [0, 1, 2] [0, 1, 2, 4, 3] rfl rfl rfl rfl (by decide) rfl rfl 0 rfl rfl rfl rfl rfl (Nat.le_of_ble_eq_true rfl) d_P_changed_147 (fun H locs hP hD hS => ?_)
                    have hq := Option.some.inj hf
                    subst hq
                    exact rt_i (r := z30.1) X hr hlk hK rfl hP hD hS d_P_changed_150
                  · replace hf := (if_neg hk29).symm.trans hf
                    by_cases hk31 : x1 = (9 : Int32)
                    · replace hf := (if_pos hk31).symm.trans hf
                      refine lv_tableIn (tgt := 151) (off := 150) hx hb d_P_changed_1 (by rw [hk31]; decide) (by rw [hk31]; decide) (by rw [hk31]; rfl) (by decide) ?_
                      refine lv_aload_n hx hb d_P_changed_151 rfl (lv_at hl 0 rfl) ?_
                      refine cp_g_P_calculator_P X hK hP d_P_changed_152 ?_
                      refine lv_iload_n hx hb d_P_changed_155 rfl (lv_at hl 2 rfl) ?_
                      refine lv_aload_n hx hb d_P_changed_156 rfl (lv_at hl 0 rfl) ?_
                      refine cp_g_P_calculator_P X hK hP d_P_changed_157 ?_
                      obtain ⟨z32, hz32, hf⟩ := op_b hf
                      refine cf_i (ws2 := (cp_ aY aB aG aP aC cI cT py po cb ga gb gd gc gx gy gu gs gp)) X cx_P_118 hK hP hD hS hA hZ hl (c_tc_C_carry (aG := aG) (aC := aC) (ga := ga) (gb := gb) (gd := gd) (gc := gc) (gx := gx) (gy := gy) (gu := gu) (gs := gs) (gp := gp) hz32) ⟨rfl, rfl, Nat.le_of_ble_eq_true rfl, Nat.le_of_ble_eq_true rfl⟩ [4, 3] [0, 1, 2] [0, 1, 2, 4, 3] rfl rfl rfl rfl (by decide) rfl rfl 0 rfl rfl rfl rfl rfl (Nat.le_of_ble_eq_true rfl) d_P_changed_160 (fun H locs hP hD hS => ?_)
                      obtain ⟨z33, hz33, hf⟩ := op_b hf
                      refine cf_i (ws2 := (cp_ aY aB aG aP aC cI cT py po cb ga gb gd z33.2 gx gy gu gs gp)) X cx_P_159 hK hP hD hS hA hZ hl (c_tc_C_shiftLeft (aG := aG) (aC := aC) (ga := ga) (gb := gb) (gd := gd) (gc := gc) (gx := gx) (gy := gy) (gu := gu) (gs := gs) (gp := gp) hz33) ⟨rfl, rfl, Nat.le_of_ble_eq_true rfl, Nat.le_of_ble_eq_true rfl⟩ [4, 3] [0, 1, 2] [0, 1, 2, 4, 3] rfl rfl rfl rfl (by decide) rfl rfl 0 rfl rfl rfl rfl rfl (Nat.le_of_ble_eq_true rfl) d_P_changed_163 (fun H locs hP hD hS => ?_)
                      have hq := Option.some.inj hf
                      subst hq
                      exact rt_i (r := z33.1) X hr hlk hK rfl hP hD hS d_P_changed_166
                    · replace hf := (if_neg hk31).symm.trans hf
                      by_cases hk34 : x1 = (10 : Int32)
                      · replace hf := (if_pos hk34).symm.trans hf
                        refine lv_tableIn (tgt := 167) (off := 166) hx hb d_P_changed_1 (by rw [hk34]; decide) (by rw [hk34]; decide) (by rw [hk34]; rfl) (by decide) ?_
                        refine lv_aload_n hx hb d_P_changed_167 rfl (lv_at hl 0 rfl) ?_
                        refine cp_g_P_calculator_P X hK hP d_P_changed_168 ?_
                        refine lv_iload_n hx hb d_P_changed_171 rfl (lv_at hl 2 rfl) ?_
                        obtain ⟨z35, hz35, hf⟩ := op_b hf
                        refine cf_i (ws2 := (cp_ aY aB aG aP aC cI cT py po cb ga gb gd z35.2 gx gy gu gs gp)) X cx_P_162 hK hP hD hS hA hZ hl (c_tc_C_decrement (aG := aG) (aC := aC) (ga := ga) (gb := gb) (gd := gd) (gc := gc) (gx := gx) (gy := gy) (gu := gu) (gs := gs) (gp := gp) hz35) ⟨rfl, rfl, Nat.le_of_ble_eq_true rfl, Nat.le_of_ble_eq_true rfl⟩ [4, 3] [0, 1, 2] [0, 1, 2, 4, 3] rfl rfl rfl rfl (by decide) rfl rfl 0 rfl rfl rfl rfl rfl (Nat.le_of_ble_eq_true rfl) d_P_changed_172 (fun H locs hP hD hS => ?_)
                        have hq := Option.some.inj hf
                        subst hq
                        exact rt_i (r := z35.1) X hr hlk hK rfl hP hD hS d_P_changed_175
                      · replace hf := (if_neg hk34).symm.trans hf
                        by_cases hk36 : x1 = (11 : Int32)
                        · replace hf := (if_pos hk36).symm.trans hf
                          refine lv_tableIn (tgt := 195) (off := 194) hx hb d_P_changed_1 (by rw [hk36]; decide) (by rw [hk36]; decide) (by rw [hk36]; rfl) (by decide) ?_
                          exact J195 gc hf _ _ _ (lv_sub hl [0] rfl) hP hD hS
                        · replace hf := (if_neg hk36).symm.trans hf
                          by_cases hk37 : x1 = (12 : Int32)
                          · replace hf := (if_pos hk37).symm.trans hf
                            refine lv_tableIn (tgt := 176) (off := 175) hx hb d_P_changed_1 (by rw [hk37]; decide) (by rw [hk37]; decide) (by rw [hk37]; rfl) (by decide) ?_
                            refine lv_aload_n hx hb d_P_changed_176 rfl (lv_at hl 0 rfl) ?_
                            refine cp_g_P_calculator_P X hK hP d_P_changed_177 ?_
                            refine lv_iload_n hx hb d_P_changed_180 rfl (lv_at hl 2 rfl) ?_
                            obtain ⟨z38, hz38, hf⟩ := op_b hf
                            refine cf_i (ws2 := (cp_ aY aB aG aP aC cI cT py po cb ga gb gd z38.2 gx gy gu gs gp)) X cx_P_165 hK hP hD hS hA hZ hl (c_tc_C_increment (aG := aG) (aC := aC) (ga := ga) (gb := gb) (gd := gd) (gc := gc) (gx := gx) (gy := gy) (gu := gu) (gs := gs) (gp := gp) hz38) ⟨rfl, rfl, Nat.le_of_ble_eq_true rfl, Nat.le_of_ble_eq_true rfl⟩ [4, 3] [0, 1, 2] [0, 1, 2, 4, 3] rfl rfl rfl rfl (by decide) rfl rfl 0 rfl rfl rfl rfl rfl (Nat.le_of_ble_eq_true rfl) d_P_changed_181 (fun H locs hP hD hS => ?_)
                            have hq := Option.some.inj hf
                            subst hq
                            exact rt_i (r := z38.1) X hr hlk hK rfl hP hD hS d_P_changed_184
                          · replace hf := (if_neg hk37).symm.trans hf
                            by_cases hk39 : x1 = (13 : Int32)
                            · replace hf := (if_pos hk39).symm.trans hf
                              refine lv_tableIn (tgt := 185) (off := 184) hx hb d_P_changed_1 (by rw [hk39]; decide) (by rw [hk39]; decide) (by rw [hk39]; rfl) (by decide) ?_
                              refine lv_aload_n hx hb d_P_changed_185 rfl (lv_at hl 0 rfl) ?_
                              refine cp_g_P_calculator_P X hK hP d_P_changed_186 ?_
                              refine lv_iload_n hx hb d_P_changed_189 rfl (lv_at hl 2 rfl) ?_
                              refine lv_iconst (v := (1 : Int32)) hx hb d_P_changed_190 (by decide) ?_
                              obtain ⟨z40, hz40, hf⟩ := op_b hf
                              refine cf_i (ws2 := (cp_ aY aB aG aP aC cI cT py po cb ga gb gd z40.2 gx gy gu gs gp)) X cx_P_103 hK hP hD hS hA hZ hl (c_tc_C_plain (aG := aG) (aC := aC) (ga := ga) (gb := gb) (gd := gd) (gc := gc) (gx := gx) (gy := gy) (gu := gu) (gs := gs) (gp := gp) hz40) ⟨rfl, rfl, Nat.le_of_ble_eq_true rfl, Nat.le_of_ble_eq_true rfl⟩ [4, 3] [0, 1, 2] [0, 1, 2, 4, 3] rfl rfl rfl rfl (by decide) rfl rfl 0 rfl rfl rfl rfl rfl (Nat.le_of_ble_eq_true rfl) d_P_changed_191 (fun H locs hP hD hS => ?_)
                              have hq := Option.some.inj hf
                              subst hq
                              exact rt_i (r := z40.1) X hr hlk hK rfl hP hD hS d_P_changed_194
                            · replace hf := (if_neg hk39).symm.trans hf
                              refine lv_tableOut (tgt := 195) hx hb d_P_changed_1 (by have q0 := lv_neT hk15 (show Int32.toInt (0 : Int32) = 0 by decide); have q1 := lv_neT hk17 (show Int32.toInt (1 : Int32) = 1 by decide); have q2 := lv_neT hk18 (show Int32.toInt (2 : Int32) = 2 by decide); have q3 := lv_neT hk19 (show Int32.toInt (3 : Int32) = 3 by decide); have q4 := lv_neT hk21 (show Int32.toInt (4 : Int32) = 4 by decide); have q5 := lv_neT hk23 (show Int32.toInt (5 : Int32) = 5 by decide); have q6 := lv_neT hk24 (show Int32.toInt (6 : Int32) = 6 by decide); have q7 := lv_neT hk27 (show Int32.toInt (7 : Int32) = 7 by decide); have q8 := lv_neT hk29 (show Int32.toInt (8 : Int32) = 8 by decide); have q9 := lv_neT hk31 (show Int32.toInt (9 : Int32) = 9 by decide); have q10 := lv_neT hk34 (show Int32.toInt (10 : Int32) = 10 by decide); have q11 := lv_neT hk36 (show Int32.toInt (11 : Int32) = 11 by decide); have q12 := lv_neT hk37 (show Int32.toInt (12 : Int32) = 12 by decide); have q13 := lv_neT hk39 (show Int32.toInt (13 : Int32) = 13 by decide); omega) (by decide) ?_
                              exact J195 gc hf _ _ _ (lv_sub hl [0] rfl) hP hD hS
set_option maxHeartbeats 4000000 in
set_option maxRecDepth 100000 in
theorem c_tc_P_store {x1 : Int32} {x2 : Int32} {x3 : Int32} {z : Int32 × (Nat → Int32)} (hf : tc_P_store x1 x2 x3 py cb = some z) : cs_v l my_P_store mb_P_store 4 rm_c_P_store D (ty_ cI cT) [.ref aP, .int x1, .int x2, .int x3] (cp_ aY aB aG aP aC cI cT py po cb ga gb gd gc gx gy gu gs gp) (cp_ aY aB aG aP aC cI cT z.1 po z.2 ga gb gd gc gx gy gu gs gp) := by
  refine cs_v_of (by decide) (Nat.le_of_ble_eq_true rfl) ?_
  intro p e s m below meth c A ls X hr hlk hK hP hD hS hA hZ hl
  have hx := X.1
  have hb := X.2.1
  have hl : lv_has ls 4 [(0, .ref aP), (1, .int x1), (2, .int x2), (3, .int x3)] := hl
  unfold tc_P_store at hf
  refine lv_aload_n hx hb d_P_store_0 rfl (lv_at hl 0 rfl) ?_
  refine lv_dup hx hb d_P_store_1 rfl ?_
  refine cp_g_P_cycles_P X hK hP d_P_store_2 ?_
  refine lv_iload_n hx hb d_P_store_5 rfl (lv_at hl 3 rfl) ?_
  refine lv_iadd hx hb d_P_store_6 ?_
  refine cp_p_P_cycles_P (x := (py + x3)) X hK hP hD hS d_P_store_7 (fun H locs hP hD hS => ?_)
  refine lv_aload_n hx hb d_P_store_10 rfl (lv_at hl 0 rfl) ?_
  refine cp_g_P_memory_P X hK hP d_P_store_11 ?_
  refine lv_iload_n hx hb d_P_store_14 rfl (lv_at hl 1 rfl) ?_
  refine lv_iload_n hx hb d_P_store_15 rfl (lv_at hl 2 rfl) ?_
  refine lv_iload_n hx hb d_P_store_16 rfl (lv_at hl 3 rfl) ?_
  obtain ⟨z2, hz2, hf⟩ := op_b hf
  refine cf_v (ws2 := (cp_ aY aB aG aP aC cI cT (py + x3) po z2 ga gb gd gc gx gy gu gs gp)) X cx_P_77 hK hP hD hS hA hZ hl (c_tc_Y_store (aY := aY) (aB := aB) (cb := cb) hz2) ⟨rfl, rfl, Nat.le_of_ble_eq_true rfl, Nat.le_of_ble_eq_true rfl⟩ [1, 2] [0, 3, 4] [0, 3, 4, 1, 2] rfl rfl rfl rfl (by decide) rfl rfl 0 rfl rfl rfl rfl rfl (Nat.le_of_ble_eq_true rfl) d_P_store_17 (fun H locs hP hD hS => ?_)
  have hq := Option.some.inj hf
  subst hq
  exact rt_v X hr hlk hK hP hD hS d_P_store_20
set_option maxHeartbeats 4000000 in
set_option maxRecDepth 100000 in
theorem c_tc_P_changeMemory {x1 : Int32} {x2 : Int32} {z : Int32 × Int32 × (Nat → Int32) × Int32 × Int32 × Int32 × Int32 × Int32 × Int32 × Int32 × Int32 × Int32} (hf : tc_P_changeMemory x1 x2 py po cb ga gb gd gc gx gy gu gs gp = some z) : cs_v l my_P_changeMemory mb_P_changeMemory 5 rm_c_P_changeMemory D (ty_ cI cT) [.ref aP, .int x1, .int x2] (cp_ aY aB aG aP aC cI cT py po cb ga gb gd gc gx gy gu gs gp) (cp_ aY aB aG aP aC cI cT z.1 z.2.1 z.2.2.1 z.2.2.2.1 z.2.2.2.2.1 z.2.2.2.2.2.1 z.2.2.2.2.2.2.1 z.2.2.2.2.2.2.2.1 z.2.2.2.2.2.2.2.2.1 z.2.2.2.2.2.2.2.2.2.1 z.2.2.2.2.2.2.2.2.2.2.1 z.2.2.2.2.2.2.2.2.2.2.2) := by
  refine cs_v_of (by decide) (Nat.le_of_ble_eq_true rfl) ?_
  intro p e s m below meth c A ls X hr hlk hK hP hD hS hA hZ hl
  have hx := X.1
  have hb := X.2.1
  have hl : lv_has ls 5 [(0, .ref aP), (1, .int x1), (2, .int x2)] := hl
  have J69 : ∀ (v1 : Int32) (v3 : Int32) (s0 : Int32) (s1 : Int32) (py : Int32) (po : Int32) (cb : Nat → Int32) (ga : Int32) (gb : Int32) (gd : Int32) (gc : Int32) (gx : Int32) (gy : Int32) (gu : Int32) (gs : Int32) (gp : Int32), tc_P_changeMemory_j69 v1 v3 s0 s1 py po cb ga gb gd gc gx gy gu gs gp = some z → ∀ (H : Heap) (locs : List Loc) (ls : Array Slot), lv_has ls 5 [(0, .ref aP), (1, .int v1), (3, .int v3)] → va_P D cz_all (cp_ aY aB aG aP aC cI cT py po cb ga gb gd gc gx gy gu gs gp) H → va_D A (cp_ aY aB aG aP aC cI cT py po cb ga gb gd gc gx gy gu gs gp) → va_S A s.heap H locs → W p l e rm_c_P_changeMemory s m ([.ref aP, .int x1, .int x2] : List Value).toArray below meth c H locs 0 0 (MQ below (qs_v D (ty_ cI cT) (cp_ aY aB aG aP aC cI cT z.1 z.2.1 z.2.2.1 z.2.2.2.1 z.2.2.2.2.1 z.2.2.2.2.2.1 z.2.2.2.2.2.2.1 z.2.2.2.2.2.2.2.1 z.2.2.2.2.2.2.2.2.1 z.2.2.2.2.2.2.2.2.2.1 z.2.2.2.2.2.2.2.2.2.2.1 z.2.2.2.2.2.2.2.2.2.2.2) A) ([.ref aP, .int x1, .int x2] : List Value).toArray s 0 0 A) (F0 m 69 ls [.int s0, .int s1, .ref aP]) := by
    intro v1 v3 s0 s1 py po cb ga gb gd gc gx gy gu gs gp hf H locs ls hl hP hD hS
    unfold tc_P_changeMemory_j69 at hf
    obtain ⟨z6, hz6, hf⟩ := op_b hf
    refine cf_i (ws2 := (cp_ aY aB aG aP aC cI cT py po cb ga gb gd z6.2 gx gy gu gs gp)) X cx_P_150 hK hP hD hS hA hZ hl (c_tc_P_changed (aY := aY) (aB := aB) (aG := aG) (aP := aP) (aC := aC) (py := py) (po := po) (cb := cb) (ga := ga) (gb := gb) (gd := gd) (gc := gc) (gx := gx) (gy := gy) (gu := gu) (gs := gs) (gp := gp) hz6) ⟨rfl, rfl, Nat.le_of_ble_eq_true rfl, Nat.le_of_ble_eq_true rfl⟩ [0, 1, 2, 3, 4] [] [0, 1, 2, 3, 4] rfl rfl rfl rfl (by decide) rfl rfl 0 rfl rfl rfl rfl rfl (Nat.le_of_ble_eq_true rfl) d_P_changeMemory_69 (fun H locs hP hD hS => ?_)
    refine lv_istore hx hb d_P_changeMemory_72 hl (by decide) rfl (fun ls hl => ?_)
    have hl : lv_has ls 5 [(4, .int z6.1), (0, .ref aP), (1, .int v1), (3, .int v3)] := hl
    refine lv_iload_n hx hb d_P_changeMemory_74 rfl (lv_at hl 2 rfl) ?_
    refine lv_bipush (v := (13 : Int32)) hx hb d_P_changeMemory_75 (by decide) ?_
    refine lv_icmp_eq (tgt := 88) hx hb d_P_changeMemory_77 (by decide) (fun hc => ?_) (fun hc => ?_)
    · replace hf := (if_pos hc).symm.trans hf
      have hq := Option.some.inj hf
      subst hq
      exact rt_v X hr hlk hK hP hD hS d_P_changeMemory_88
    · replace hf := (if_neg hc).symm.trans hf
      refine lv_aload_n hx hb d_P_changeMemory_80 rfl (lv_at hl 1 rfl) ?_
      refine lv_iload_n hx hb d_P_changeMemory_81 rfl (lv_at hl 3 rfl) ?_
      refine lv_iload hx hb d_P_changeMemory_82 (lv_at hl 0 rfl) ?_
      refine lv_iconst (v := (1 : Int32)) hx hb d_P_changeMemory_84 (by decide) ?_
      obtain ⟨z7, hz7, hf⟩ := op_b hf
      refine cf_v (ws2 := (cp_ aY aB aG aP aC cI cT z7.1 po z7.2 ga gb gd z6.2 gx gy gu gs gp)) X cx_P_106 hK hP hD hS hA hZ hl (c_tc_P_store (aY := aY) (aB := aB) (aG := aG) (aP := aP) (aC := aC) (py := py) (po := po) (cb := cb) (ga := ga) (gb := gb) (gd := gd) (gc := z6.2) (gx := gx) (gy := gy) (gu := gu) (gs := gs) (gp := gp) hz7) ⟨rfl, rfl, Nat.le_of_ble_eq_true rfl, Nat.le_of_ble_eq_true rfl⟩ [0, 1, 2, 3, 4] [] [0, 1, 2, 3, 4] rfl rfl rfl rfl (by decide) rfl rfl 0 rfl rfl rfl rfl rfl (Nat.le_of_ble_eq_true rfl) d_P_changeMemory_85 (fun H locs hP hD hS => ?_)
      have hq := Option.some.inj hf
      subst hq
      exact rt_v X hr hlk hK hP hD hS d_P_changeMemory_88
  have J26 : ∀ (v1 : Int32) (v3 : Int32) (py : Int32) (po : Int32) (cb : Nat → Int32) (ga : Int32) (gb : Int32) (gd : Int32) (gc : Int32) (gx : Int32) (gy : Int32) (gu : Int32) (gs : Int32) (gp : Int32), tc_P_changeMemory_j26 v1 v3 py po cb ga gb gd gc gx gy gu gs gp = some z → ∀ (H : Heap) (locs : List Loc) (ls : Array Slot), lv_has ls 5 [(0, .ref aP), (1, .int v1), (3, .int v3)] → va_P D cz_all (cp_ aY aB aG aP aC cI cT py po cb ga gb gd gc gx gy gu gs gp) H → va_D A (cp_ aY aB aG aP aC cI cT py po cb ga gb gd gc gx gy gu gs gp) → va_S A s.heap H locs → W p l e rm_c_P_changeMemory s m ([.ref aP, .int x1, .int x2] : List Value).toArray below meth c H locs 0 0 (MQ below (qs_v D (ty_ cI cT) (cp_ aY aB aG aP aC cI cT z.1 z.2.1 z.2.2.1 z.2.2.2.1 z.2.2.2.2.1 z.2.2.2.2.2.1 z.2.2.2.2.2.2.1 z.2.2.2.2.2.2.2.1 z.2.2.2.2.2.2.2.2.1 z.2.2.2.2.2.2.2.2.2.1 z.2.2.2.2.2.2.2.2.2.2.1 z.2.2.2.2.2.2.2.2.2.2.2) A) ([.ref aP, .int x1, .int x2] : List Value).toArray s 0 0 A) (F0 m 26 ls []) := by
    intro v1 v3 py po cb ga gb gd gc gx gy gu gs gp hf H locs ls hl hP hD hS
    unfold tc_P_changeMemory_j26 at hf
    refine lv_aload_n hx hb d_P_changeMemory_26 rfl (lv_at hl 0 rfl) ?_
    refine cp_g_P_outcome_P X hK hP d_P_changeMemory_27 ?_
    refine lv_bipush (v := (-2 : Int32)) hx hb d_P_changeMemory_30 (by decide) ?_
    refine lv_icmp_ne (tgt := 36) hx hb d_P_changeMemory_32 (by decide) (fun hc => ?_) (fun hc => ?_)
    · replace hf := (if_neg hc).symm.trans hf
      refine lv_iload_n hx hb d_P_changeMemory_36 rfl (lv_at hl 1 rfl) ?_
      refine lv_bipush (v := (14 : Int32)) hx hb d_P_changeMemory_37 (by decide) ?_
      refine lv_icmp_ne (tgt := 51) hx hb d_P_changeMemory_39 (by decide) (fun hc => ?_) (fun hc => ?_)
      · replace hf := (if_neg hc).symm.trans hf
        refine lv_aload_n hx hb d_P_changeMemory_51 rfl (lv_at hl 0 rfl) ?_
        refine lv_iload_n hx hb d_P_changeMemory_52 rfl (lv_at hl 1 rfl) ?_
        refine lv_iload_n hx hb d_P_changeMemory_53 rfl (lv_at hl 1 rfl) ?_
        refine lv_bipush (v := (15 : Int32)) hx hb d_P_changeMemory_54 (by decide) ?_
        refine lv_icmp_ne (tgt := 63) hx hb d_P_changeMemory_56 (by decide) (fun hc => ?_) (fun hc => ?_)
        · replace hf := (if_neg hc).symm.trans hf
          refine lv_aload_n hx hb d_P_changeMemory_63 rfl (lv_at hl 0 rfl) ?_
          refine lv_iload_n hx hb d_P_changeMemory_64 rfl (lv_at hl 2 rfl) ?_
          refine lv_iconst (v := (1 : Int32)) hx hb d_P_changeMemory_65 (by decide) ?_
          obtain ⟨z8, hz8, hf⟩ := op_b hf
          refine cf_i (ws2 := (cp_ aY aB aG aP aC cI cT z8.2 po cb ga gb gd gc gx gy gu gs gp)) X cx_P_107 hK hP hD hS hA hZ hl (c_tc_P_load (aY := aY) (aB := aB) (aG := aG) (aP := aP) (aC := aC) (py := py) (po := po) (cb := cb) (ga := ga) (gb := gb) (gd := gd) (gc := gc) (gx := gx) (gy := gy) (gu := gu) (gs := gs) (gp := gp) hz8) ⟨rfl, rfl, Nat.le_of_ble_eq_true rfl, Nat.le_of_ble_eq_true rfl⟩ [0, 1, 2, 3, 4] [] [0, 1, 2, 3, 4] rfl rfl rfl rfl (by decide) rfl rfl 0 rfl rfl rfl rfl rfl (Nat.le_of_ble_eq_true rfl) d_P_changeMemory_66 (fun H locs hP hD hS => ?_)
          exact J69 v1 v3 z8.1 v1 z8.2 po cb ga gb gd gc gx gy gu gs gp hf _ _ _ hl hP hD hS
        · replace hf := (if_pos hc).symm.trans hf
          refine lv_iconst (v := (0 : Int32)) hx hb d_P_changeMemory_59 (by decide) ?_
          refine lv_goto (tgt := 69) hx hb d_P_changeMemory_60 (by decide) ?_
          exact J69 v1 v3 (0 : Int32) v1 py po cb ga gb gd gc gx gy gu gs gp hf _ _ _ hl hP hD hS
      · replace hf := (if_pos hc).symm.trans hf
        refine lv_aload_n hx hb d_P_changeMemory_42 rfl (lv_at hl 0 rfl) ?_
        refine cp_g_P_registers_P X hK hP d_P_changeMemory_43 ?_
        refine lv_iload_n hx hb d_P_changeMemory_46 rfl (lv_at hl 2 rfl) ?_
        refine cp_p_G_pc_P (x := v3) X hK hP hD hS d_P_changeMemory_47 (fun H locs hP hD hS => ?_)
        have hq := Option.some.inj hf
        subst hq
        exact rt_v X hr hlk hK hP hD hS d_P_changeMemory_50
    · replace hf := (if_pos hc).symm.trans hf
      have hq := Option.some.inj hf
      subst hq
      exact rt_v X hr hlk hK hP hD hS d_P_changeMemory_35
  unfold tc_P_changeMemory at hf
  refine lv_aload_n hx hb d_P_changeMemory_0 rfl (lv_at hl 0 rfl) ?_
  refine lv_iload_n hx hb d_P_changeMemory_1 rfl (lv_at hl 2 rfl) ?_
  refine lv_iconst (v := (1 : Int32)) hx hb d_P_changeMemory_2 (by decide) ?_
  obtain ⟨z9, hz9, hf⟩ := op_b hf
  refine cf_i (ws2 := (cp_ aY aB aG aP aC cI cT z9.2.1 z9.2.2.1 cb z9.2.2.2.1 z9.2.2.2.2.1 z9.2.2.2.2.2.1 z9.2.2.2.2.2.2.1 z9.2.2.2.2.2.2.2.1 z9.2.2.2.2.2.2.2.2.1 z9.2.2.2.2.2.2.2.2.2.1 z9.2.2.2.2.2.2.2.2.2.2.1 z9.2.2.2.2.2.2.2.2.2.2.2)) X cx_P_97 hK hP hD hS hA hZ hl (c_tc_P_operandAddress (aY := aY) (aB := aB) (aG := aG) (aP := aP) (aC := aC) (py := py) (po := po) (cb := cb) (ga := ga) (gb := gb) (gd := gd) (gc := gc) (gx := gx) (gy := gy) (gu := gu) (gs := gs) (gp := gp) hz9) ⟨rfl, rfl, Nat.le_of_ble_eq_true rfl, Nat.le_of_ble_eq_true rfl⟩ [0, 1, 2, 3, 4] [] [0, 1, 2, 3, 4] rfl rfl rfl rfl (by decide) rfl rfl 0 rfl rfl rfl rfl rfl (Nat.le_of_ble_eq_true rfl) d_P_changeMemory_3 (fun H locs hP hD hS => ?_)
  refine lv_istore_n hx hb d_P_changeMemory_6 rfl hl (by decide) rfl (fun ls hl => ?_)
  have hl : lv_has ls 5 [(3, .int z9.1), (0, .ref aP), (1, .int x1), (2, .int x2)] := hl
  refine lv_iload_n hx hb d_P_changeMemory_7 rfl (lv_at hl 2 rfl) ?_
  obtain ⟨z10, hz10, hf⟩ := op_b hf
  refine cf_si X cx_P_146 hK hP hD hS hA hZ hl (c_tc_P_isChange (w := (cp_ aY aB aG aP aC cI cT z9.2.1 z9.2.2.1 cb z9.2.2.2.1 z9.2.2.2.2.1 z9.2.2.2.2.2.1 z9.2.2.2.2.2.2.1 z9.2.2.2.2.2.2.2.1 z9.2.2.2.2.2.2.2.2.1 z9.2.2.2.2.2.2.2.2.2.1 z9.2.2.2.2.2.2.2.2.2.2.1 z9.2.2.2.2.2.2.2.2.2.2.2)) hz10) ⟨rfl, rfl, Nat.le_of_ble_eq_true rfl, Nat.le_of_ble_eq_true rfl⟩ rfl rfl (Nat.le_of_ble_eq_true rfl) d_P_changeMemory_8 (fun H locs hP hD hS => ?_)
  refine lv_if_ne (tgt := 26) hx hb d_P_changeMemory_11 (by decide) (fun hc => ?_) (fun hc => ?_)
  · replace hf := (if_neg hc).symm.trans hf
    exact J26 x1 z9.1 z9.2.1 z9.2.2.1 cb z9.2.2.2.1 z9.2.2.2.2.1 z9.2.2.2.2.2.1 z9.2.2.2.2.2.2.1 z9.2.2.2.2.2.2.2.1 z9.2.2.2.2.2.2.2.2.1 z9.2.2.2.2.2.2.2.2.2.1 z9.2.2.2.2.2.2.2.2.2.2.1 z9.2.2.2.2.2.2.2.2.2.2.2 hf _ _ _ (lv_sub hl [1, 2, 0] rfl) hP hD hS
  · replace hf := (if_pos hc).symm.trans hf
    refine lv_iload_n hx hb d_P_changeMemory_14 rfl (lv_at hl 2 rfl) ?_
    refine lv_bipush (v := (14 : Int32)) hx hb d_P_changeMemory_15 (by decide) ?_
    refine lv_icmp_eq (tgt := 26) hx hb d_P_changeMemory_17 (by decide) (fun hc => ?_) (fun hc => ?_)
    · replace hf := (if_pos hc).symm.trans hf
      exact J26 x1 z9.1 z9.2.1 z9.2.2.1 cb z9.2.2.2.1 z9.2.2.2.2.1 z9.2.2.2.2.2.1 z9.2.2.2.2.2.2.1 z9.2.2.2.2.2.2.2.1 z9.2.2.2.2.2.2.2.2.1 z9.2.2.2.2.2.2.2.2.2.1 z9.2.2.2.2.2.2.2.2.2.2.1 z9.2.2.2.2.2.2.2.2.2.2.2 hf _ _ _ (lv_sub hl [1, 2, 0] rfl) hP hD hS
    · replace hf := (if_neg hc).symm.trans hf
      refine lv_aload_n hx hb d_P_changeMemory_20 rfl (lv_at hl 1 rfl) ?_
      refine lv_bipush (v := (-2 : Int32)) hx hb d_P_changeMemory_21 (by decide) ?_
      refine cp_p_P_outcome_P (x := (-2 : Int32)) X hK hP hD hS d_P_changeMemory_23 (fun H locs hP hD hS => ?_)
      exact J26 x1 z9.1 z9.2.1 (-2 : Int32) cb z9.2.2.2.1 z9.2.2.2.2.1 z9.2.2.2.2.2.1 z9.2.2.2.2.2.2.1 z9.2.2.2.2.2.2.2.1 z9.2.2.2.2.2.2.2.2.1 z9.2.2.2.2.2.2.2.2.2.1 z9.2.2.2.2.2.2.2.2.2.2.1 z9.2.2.2.2.2.2.2.2.2.2.2 hf _ _ _ (lv_sub hl [1, 2, 0] rfl) hP hD hS
set_option maxHeartbeats 4000000 in
set_option maxRecDepth 100000 in
theorem c_tc_P_calculate {x1 : Int32} {x2 : Int32} {x3 : Int32} {x4 : Int32} {z : Int32 × Int32} (hf : tc_P_calculate x1 x2 x3 x4 gc = some z) : cs_i l my_P_calculate mb_P_calculate 5 .int rm_c_P_calculate D (ty_ cI cT) [.ref aP, .int x1, .int x2, .int x3, .int x4] (cp_ aY aB aG aP aC cI cT py po cb ga gb gd gc gx gy gu gs gp) (cp_ aY aB aG aP aC cI cT py po cb ga gb gd z.2 gx gy gu gs gp) z.1 := by
  refine cs_i_of (by decide) (Nat.le_of_ble_eq_true rfl) ?_
  intro p e s m below meth c A ls X hr hlk hK hP hD hS hA hZ hl
  have hx := X.1
  have hb := X.2.1
  have hl : lv_has ls 5 [(0, .ref aP), (1, .int x1), (2, .int x2), (3, .int x3), (4, .int x4)] := hl
  have J167 : ∀ (v3 : Int32) (v4 : Int32) (gc : Int32), tc_P_calculate_j167 v3 v4 gc = some z → ∀ (H : Heap) (locs : List Loc) (ls : Array Slot), lv_has ls 5 [(0, .ref aP), (3, .int v3), (4, .int v4)] → va_P D cz_all (cp_ aY aB aG aP aC cI cT py po cb ga gb gd gc gx gy gu gs gp) H → va_D A (cp_ aY aB aG aP aC cI cT py po cb ga gb gd gc gx gy gu gs gp) → va_S A s.heap H locs → W p l e rm_c_P_calculate s m ([.ref aP, .int x1, .int x2, .int x3, .int x4] : List Value).toArray below meth c H locs 0 0 (MQ below (qs_i D (ty_ cI cT) (cp_ aY aB aG aP aC cI cT py po cb ga gb gd z.2 gx gy gu gs gp) z.1 A) ([.ref aP, .int x1, .int x2, .int x3, .int x4] : List Value).toArray s 0 0 A) (F0 m 167 ls []) := by
    intro v3 v4 gc hf H locs ls hl hP hD hS
    unfold tc_P_calculate_j167 at hf
    refine lv_aload_n hx hb d_P_calculate_167 rfl (lv_at hl 0 rfl) ?_
    refine cp_g_P_calculator_P X hK hP d_P_calculate_168 ?_
    refine lv_iload_n hx hb d_P_calculate_171 rfl (lv_at hl 1 rfl) ?_
    refine lv_iload hx hb d_P_calculate_172 (lv_at hl 2 rfl) ?_
    obtain ⟨z11, hz11, hf⟩ := op_b hf
    refine cf_i (ws2 := (cp_ aY aB aG aP aC cI cT py po cb ga gb gd z11.2 gx gy gu gs gp)) X cx_P_103 hK hP hD hS hA hZ hl (c_tc_C_plain (aG := aG) (aC := aC) (ga := ga) (gb := gb) (gd := gd) (gc := gc) (gx := gx) (gy := gy) (gu := gu) (gs := gs) (gp := gp) hz11) ⟨rfl, rfl, Nat.le_of_ble_eq_true rfl, Nat.le_of_ble_eq_true rfl⟩ [4, 3] [0, 1, 2] [0, 1, 2, 4, 3] rfl rfl rfl rfl (by decide) rfl rfl 0 rfl rfl rfl rfl rfl (Nat.le_of_ble_eq_true rfl) d_P_calculate_174 (fun H locs hP hD hS => ?_)
    have hq := Option.some.inj hf
    subst hq
    exact rt_i (r := z11.1) X hr hlk hK rfl hP hD hS d_P_calculate_177
  have J96 : ∀ (v2 : Int32) (v3 : Int32) (v4 : Int32) (gc : Int32), tc_P_calculate_j96 v2 v3 v4 gc = some z → ∀ (H : Heap) (locs : List Loc) (ls : Array Slot), lv_has ls 5 [(0, .ref aP), (2, .int v2), (3, .int v3), (4, .int v4)] → va_P D cz_all (cp_ aY aB aG aP aC cI cT py po cb ga gb gd gc gx gy gu gs gp) H → va_D A (cp_ aY aB aG aP aC cI cT py po cb ga gb gd gc gx gy gu gs gp) → va_S A s.heap H locs → W p l e rm_c_P_calculate s m ([.ref aP, .int x1, .int x2, .int x3, .int x4] : List Value).toArray below meth c H locs 0 0 (MQ below (qs_i D (ty_ cI cT) (cp_ aY aB aG aP aC cI cT py po cb ga gb gd z.2 gx gy gu gs gp) z.1 A) ([.ref aP, .int x1, .int x2, .int x3, .int x4] : List Value).toArray s 0 0 A) (F0 m 96 ls []) := by
    intro v2 v3 v4 gc hf H locs ls hl hP hD hS
    unfold tc_P_calculate_j96 at hf
    refine lv_aload_n hx hb d_P_calculate_96 rfl (lv_at hl 0 rfl) ?_
    refine cp_g_P_calculator_P X hK hP d_P_calculate_97 ?_
    refine lv_iload_n hx hb d_P_calculate_100 rfl (lv_at hl 1 rfl) ?_
    refine lv_iload_n hx hb d_P_calculate_101 rfl (lv_at hl 2 rfl) ?_
    refine lv_iand hx hb d_P_calculate_102 ?_
    refine lv_iload hx hb d_P_calculate_103 (lv_at hl 3 rfl) ?_
    obtain ⟨z12, hz12, hf⟩ := op_b hf
    refine cf_i (ws2 := (cp_ aY aB aG aP aC cI cT py po cb ga gb gd z12.2 gx gy gu gs gp)) X cx_P_103 hK hP hD hS hA hZ hl (c_tc_C_plain (aG := aG) (aC := aC) (ga := ga) (gb := gb) (gd := gd) (gc := gc) (gx := gx) (gy := gy) (gu := gu) (gs := gs) (gp := gp) hz12) ⟨rfl, rfl, Nat.le_of_ble_eq_true rfl, Nat.le_of_ble_eq_true rfl⟩ [4, 3] [0, 1, 2] [0, 1, 2, 4, 3] rfl rfl rfl rfl (by decide) rfl rfl 0 rfl rfl rfl rfl rfl (Nat.le_of_ble_eq_true rfl) d_P_calculate_105 (fun H locs hP hD hS => ?_)
    have hq := Option.some.inj hf
    subst hq
    exact rt_i (r := z12.1) X hr hlk hK rfl hP hD hS d_P_calculate_108
  have J64 : ∀ (v2 : Int32) (v3 : Int32) (v4 : Int32) (gc : Int32), tc_P_calculate_j64 v2 v3 v4 gc = some z → ∀ (H : Heap) (locs : List Loc) (ls : Array Slot), lv_has ls 5 [(0, .ref aP), (2, .int v2), (3, .int v3), (4, .int v4)] → va_P D cz_all (cp_ aY aB aG aP aC cI cT py po cb ga gb gd gc gx gy gu gs gp) H → va_D A (cp_ aY aB aG aP aC cI cT py po cb ga gb gd gc gx gy gu gs gp) → va_S A s.heap H locs → W p l e rm_c_P_calculate s m ([.ref aP, .int x1, .int x2, .int x3, .int x4] : List Value).toArray below meth c H locs 0 0 (MQ below (qs_i D (ty_ cI cT) (cp_ aY aB aG aP aC cI cT py po cb ga gb gd z.2 gx gy gu gs gp) z.1 A) ([.ref aP, .int x1, .int x2, .int x3, .int x4] : List Value).toArray s 0 0 A) (F0 m 64 ls []) := by
    intro v2 v3 v4 gc hf H locs ls hl hP hD hS
    unfold tc_P_calculate_j64 at hf
    refine lv_aload_n hx hb d_P_calculate_64 rfl (lv_at hl 0 rfl) ?_
    refine cp_g_P_calculator_P X hK hP d_P_calculate_65 ?_
    refine lv_iload_n hx hb d_P_calculate_68 rfl (lv_at hl 1 rfl) ?_
    refine lv_iload_n hx hb d_P_calculate_69 rfl (lv_at hl 2 rfl) ?_
    refine lv_iconst (v := (0 : Int32)) hx hb d_P_calculate_70 (by decide) ?_
    refine lv_iload hx hb d_P_calculate_71 (lv_at hl 3 rfl) ?_
    obtain ⟨z13, hz13, hf⟩ := op_b hf
    refine cf_i (ws2 := (cp_ aY aB aG aP aC cI cT py po cb ga gb gd z13.2 gx gy gu gs gp)) X cx_P_115 hK hP hD hS hA hZ hl (c_tc_C_difference (aG := aG) (aC := aC) (ga := ga) (gb := gb) (gd := gd) (gc := gc) (gx := gx) (gy := gy) (gu := gu) (gs := gs) (gp := gp) hz13) ⟨rfl, rfl, Nat.le_of_ble_eq_true rfl, Nat.le_of_ble_eq_true rfl⟩ [4, 3] [0, 1, 2] [0, 1, 2, 4, 3] rfl rfl rfl rfl (by decide) rfl rfl 0 rfl rfl rfl rfl rfl (Nat.le_of_ble_eq_true rfl) d_P_calculate_73 (fun H locs hP hD hS => ?_)
    have hq := Option.some.inj hf
    subst hq
    exact rt_i (r := z13.1) X hr hlk hK rfl hP hD hS d_P_calculate_76
  unfold tc_P_calculate at hf
  refine lv_iload_n hx hb d_P_calculate_0 rfl (lv_at hl 1 rfl) ?_
  by_cases hk14 : x1 = (0 : Int32)
  · replace hf := (if_pos hk14).symm.trans hf
    refine lv_tableIn (tgt := 64) (off := 63) hx hb d_P_calculate_1 (by rw [hk14]; decide) (by rw [hk14]; decide) (by rw [hk14]; rfl) (by decide) ?_
    exact J64 x2 x3 x4 gc hf _ _ _ (lv_sub hl [0, 2, 3, 4] rfl) hP hD hS
  · replace hf := (if_neg hk14).symm.trans hf
    by_cases hk15 : x1 = (1 : Int32)
    · replace hf := (if_pos hk15).symm.trans hf
      refine lv_tableIn (tgt := 64) (off := 63) hx hb d_P_calculate_1 (by rw [hk15]; decide) (by rw [hk15]; decide) (by rw [hk15]; rfl) (by decide) ?_
      exact J64 x2 x3 x4 gc hf _ _ _ (lv_sub hl [0, 2, 3, 4] rfl) hP hD hS
    · replace hf := (if_neg hk15).symm.trans hf
      by_cases hk16 : x1 = (2 : Int32)
      · replace hf := (if_pos hk16).symm.trans hf
        refine lv_tableIn (tgt := 77) (off := 76) hx hb d_P_calculate_1 (by rw [hk16]; decide) (by rw [hk16]; decide) (by rw [hk16]; rfl) (by decide) ?_
        refine lv_aload_n hx hb d_P_calculate_77 rfl (lv_at hl 0 rfl) ?_
        refine cp_g_P_calculator_P X hK hP d_P_calculate_78 ?_
        refine lv_iload_n hx hb d_P_calculate_81 rfl (lv_at hl 2 rfl) ?_
        refine lv_iload_n hx hb d_P_calculate_82 rfl (lv_at hl 3 rfl) ?_
        refine lv_aload_n hx hb d_P_calculate_83 rfl (lv_at hl 0 rfl) ?_
        refine cp_g_P_calculator_P X hK hP d_P_calculate_84 ?_
        obtain ⟨z17, hz17, hf⟩ := op_b hf
        refine cf_i (ws2 := (cp_ aY aB aG aP aC cI cT py po cb ga gb gd gc gx gy gu gs gp)) X cx_P_118 hK hP hD hS hA hZ hl (c_tc_C_carry (aG := aG) (aC := aC) (ga := ga) (gb := gb) (gd := gd) (gc := gc) (gx := gx) (gy := gy) (gu := gu) (gs := gs) (gp := gp) hz17) ⟨rfl, rfl, Nat.le_of_ble_eq_true rfl, Nat.le_of_ble_eq_true rfl⟩ [4, 3] [0, 1, 2] [0, 1, 2, 4, 3] rfl rfl rfl rfl (by decide) rfl rfl 0 rfl rfl rfl rfl rfl (Nat.le_of_ble_eq_true rfl) d_P_calculate_87 (fun H locs hP hD hS => ?_)
        refine lv_iload hx hb d_P_calculate_90 (lv_at hl 4 rfl) ?_
        obtain ⟨z18, hz18, hf⟩ := op_b hf
        refine cf_i (ws2 := (cp_ aY aB aG aP aC cI cT py po cb ga gb gd z18.2 gx gy gu gs gp)) X cx_P_115 hK hP hD hS hA hZ hl (c_tc_C_difference (aG := aG) (aC := aC) (ga := ga) (gb := gb) (gd := gd) (gc := gc) (gx := gx) (gy := gy) (gu := gu) (gs := gs) (gp := gp) hz18) ⟨rfl, rfl, Nat.le_of_ble_eq_true rfl, Nat.le_of_ble_eq_true rfl⟩ [4, 3] [0, 1, 2] [0, 1, 2, 4, 3] rfl rfl rfl rfl (by decide) rfl rfl 0 rfl rfl rfl rfl rfl (Nat.le_of_ble_eq_true rfl) d_P_calculate_92 (fun H locs hP hD hS => ?_)
        have hq := Option.some.inj hf
        subst hq
        exact rt_i (r := z18.1) X hr hlk hK rfl hP hD hS d_P_calculate_95
      · replace hf := (if_neg hk16).symm.trans hf
        by_cases hk19 : x1 = (3 : Int32)
        · replace hf := (if_pos hk19).symm.trans hf
          refine lv_tableIn (tgt := 167) (off := 166) hx hb d_P_calculate_1 (by rw [hk19]; decide) (by rw [hk19]; decide) (by rw [hk19]; rfl) (by decide) ?_
          exact J167 x3 x4 gc hf _ _ _ (lv_sub hl [0, 3, 4] rfl) hP hD hS
        · replace hf := (if_neg hk19).symm.trans hf
          by_cases hk20 : x1 = (4 : Int32)
          · replace hf := (if_pos hk20).symm.trans hf
            refine lv_tableIn (tgt := 96) (off := 95) hx hb d_P_calculate_1 (by rw [hk20]; decide) (by rw [hk20]; decide) (by rw [hk20]; rfl) (by decide) ?_
            exact J96 x2 x3 x4 gc hf _ _ _ (lv_sub hl [0, 2, 3, 4] rfl) hP hD hS
          · replace hf := (if_neg hk20).symm.trans hf
            by_cases hk21 : x1 = (5 : Int32)
            · replace hf := (if_pos hk21).symm.trans hf
              refine lv_tableIn (tgt := 96) (off := 95) hx hb d_P_calculate_1 (by rw [hk21]; decide) (by rw [hk21]; decide) (by rw [hk21]; rfl) (by decide) ?_
              exact J96 x2 x3 x4 gc hf _ _ _ (lv_sub hl [0, 2, 3, 4] rfl) hP hD hS
            · replace hf := (if_neg hk21).symm.trans hf
              by_cases hk22 : x1 = (6 : Int32)
              · replace hf := (if_pos hk22).symm.trans hf
                refine lv_tableIn (tgt := 167) (off := 166) hx hb d_P_calculate_1 (by rw [hk22]; decide) (by rw [hk22]; decide) (by rw [hk22]; rfl) (by decide) ?_
                exact J167 x3 x4 gc hf _ _ _ (lv_sub hl [0, 3, 4] rfl) hP hD hS
              · replace hf := (if_neg hk22).symm.trans hf
                by_cases hk23 : x1 = (7 : Int32)
                · replace hf := (if_pos hk23).symm.trans hf
                  refine lv_tableIn (tgt := 167) (off := 166) hx hb d_P_calculate_1 (by rw [hk23]; decide) (by rw [hk23]; decide) (by rw [hk23]; rfl) (by decide) ?_
                  exact J167 x3 x4 gc hf _ _ _ (lv_sub hl [0, 3, 4] rfl) hP hD hS
                · replace hf := (if_neg hk23).symm.trans hf
                  by_cases hk24 : x1 = (8 : Int32)
                  · replace hf := (if_pos hk24).symm.trans hf
                    refine lv_tableIn (tgt := 109) (off := 108) hx hb d_P_calculate_1 (by rw [hk24]; decide) (by rw [hk24]; decide) (by rw [hk24]; rfl) (by decide) ?_
                    refine lv_aload_n hx hb d_P_calculate_109 rfl (lv_at hl 0 rfl) ?_
                    refine cp_g_P_calculator_P X hK hP d_P_calculate_110 ?_
                    refine lv_iload_n hx hb d_P_calculate_113 rfl (lv_at hl 2 rfl) ?_
                    refine lv_iload_n hx hb d_P_calculate_114 rfl (lv_at hl 3 rfl) ?_
                    refine lv_ixor hx hb d_P_calculate_115 ?_
                    refine lv_iload hx hb d_P_calculate_116 (lv_at hl 4 rfl) ?_
                    obtain ⟨z25, hz25, hf⟩ := op_b hf
                    refine cf_i (ws2 := (cp_ aY aB aG aP aC cI cT py po cb ga gb gd z25.2 gx gy gu gs gp)) X cx_P_103 hK hP hD hS hA hZ hl (c_tc_C_plain (aG := aG) (aC := aC) (ga := ga) (gb := gb) (gd := gd) (gc := gc) (gx := gx) (gy := gy) (gu := gu) (gs := gs) (gp := gp) hz25) ⟨rfl, rfl, Nat.le_of_ble_eq_true rfl, Nat.le_of_ble_eq_true rfl⟩ [4, 3] [0, 1, 2] [0, 1, 2, 4, 3] rfl rfl rfl rfl (by decide) rfl rfl 0 rfl rfl rfl rfl rfl (Nat.le_of_ble_eq_true rfl) d_P_calculate_118 (fun H locs hP hD hS => ?_)
                    have hq := Option.some.inj hf
                    subst hq
                    exact rt_i (r := z25.1) X hr hlk hK rfl hP hD hS d_P_calculate_121
                  · replace hf := (if_neg hk24).symm.trans hf
                    by_cases hk26 : x1 = (9 : Int32)
                    · replace hf := (if_pos hk26).symm.trans hf
                      refine lv_tableIn (tgt := 122) (off := 121) hx hb d_P_calculate_1 (by rw [hk26]; decide) (by rw [hk26]; decide) (by rw [hk26]; rfl) (by decide) ?_
                      refine lv_aload_n hx hb d_P_calculate_122 rfl (lv_at hl 0 rfl) ?_
                      refine cp_g_P_calculator_P X hK hP d_P_calculate_123 ?_
                      refine lv_iload_n hx hb d_P_calculate_126 rfl (lv_at hl 2 rfl) ?_
                      refine lv_iload_n hx hb d_P_calculate_127 rfl (lv_at hl 3 rfl) ?_
                      refine lv_aload_n hx hb d_P_calculate_128 rfl (lv_at hl 0 rfl) ?_
                      refine cp_g_P_calculator_P X hK hP d_P_calculate_129 ?_
                      obtain ⟨z27, hz27, hf⟩ := op_b hf
                      refine cf_i (ws2 := (cp_ aY aB aG aP aC cI cT py po cb ga gb gd gc gx gy gu gs gp)) X cx_P_118 hK hP hD hS hA hZ hl (c_tc_C_carry (aG := aG) (aC := aC) (ga := ga) (gb := gb) (gd := gd) (gc := gc) (gx := gx) (gy := gy) (gu := gu) (gs := gs) (gp := gp) hz27) ⟨rfl, rfl, Nat.le_of_ble_eq_true rfl, Nat.le_of_ble_eq_true rfl⟩ [4, 3] [0, 1, 2] [0, 1, 2, 4, 3] rfl rfl rfl rfl (by decide) rfl rfl 0 rfl rfl rfl rfl rfl (Nat.le_of_ble_eq_true rfl) d_P_calculate_132 (fun H locs hP hD hS => ?_)
                      refine lv_iload hx hb d_P_calculate_135 (lv_at hl 4 rfl) ?_
                      obtain ⟨z28, hz28, hf⟩ := op_b hf
                      refine cf_i (ws2 := (cp_ aY aB aG aP aC cI cT py po cb ga gb gd z28.2 gx gy gu gs gp)) X cx_P_122 hK hP hD hS hA hZ hl (c_tc_C_sum (aG := aG) (aC := aC) (ga := ga) (gb := gb) (gd := gd) (gc := gc) (gx := gx) (gy := gy) (gu := gu) (gs := gs) (gp := gp) hz28) ⟨rfl, rfl, Nat.le_of_ble_eq_true rfl, Nat.le_of_ble_eq_true rfl⟩ [4, 3] [0, 1, 2] [0, 1, 2, 4, 3] rfl rfl rfl rfl (by decide) rfl rfl 0 rfl rfl rfl rfl rfl (Nat.le_of_ble_eq_true rfl) d_P_calculate_137 (fun H locs hP hD hS => ?_)
                      have hq := Option.some.inj hf
                      subst hq
                      exact rt_i (r := z28.1) X hr hlk hK rfl hP hD hS d_P_calculate_140
                    · replace hf := (if_neg hk26).symm.trans hf
                      by_cases hk29 : x1 = (10 : Int32)
                      · replace hf := (if_pos hk29).symm.trans hf
                        refine lv_tableIn (tgt := 141) (off := 140) hx hb d_P_calculate_1 (by rw [hk29]; decide) (by rw [hk29]; decide) (by rw [hk29]; rfl) (by decide) ?_
                        refine lv_aload_n hx hb d_P_calculate_141 rfl (lv_at hl 0 rfl) ?_
                        refine cp_g_P_calculator_P X hK hP d_P_calculate_142 ?_
                        refine lv_iload_n hx hb d_P_calculate_145 rfl (lv_at hl 2 rfl) ?_
                        refine lv_iload_n hx hb d_P_calculate_146 rfl (lv_at hl 3 rfl) ?_
                        refine lv_ior hx hb d_P_calculate_147 ?_
                        refine lv_iload hx hb d_P_calculate_148 (lv_at hl 4 rfl) ?_
                        obtain ⟨z30, hz30, hf⟩ := op_b hf
                        refine cf_i (ws2 := (cp_ aY aB aG aP aC cI cT py po cb ga gb gd z30.2 gx gy gu gs gp)) X cx_P_103 hK hP hD hS hA hZ hl (c_tc_C_plain (aG := aG) (aC := aC) (ga := ga) (gb := gb) (gd := gd) (gc := gc) (gx := gx) (gy := gy) (gu := gu) (gs := gs) (gp := gp) hz30) ⟨rfl, rfl, Nat.le_of_ble_eq_true rfl, Nat.le_of_ble_eq_true rfl⟩ [4, 3] [0, 1, 2] [0, 1, 2, 4, 3] rfl rfl rfl rfl (by decide) rfl rfl 0 rfl rfl rfl rfl rfl (Nat.le_of_ble_eq_true rfl) d_P_calculate_150 (fun H locs hP hD hS => ?_)
                        have hq := Option.some.inj hf
                        subst hq
                        exact rt_i (r := z30.1) X hr hlk hK rfl hP hD hS d_P_calculate_153
                      · replace hf := (if_neg hk29).symm.trans hf
                        by_cases hk31 : x1 = (11 : Int32)
                        · replace hf := (if_pos hk31).symm.trans hf
                          refine lv_tableIn (tgt := 154) (off := 153) hx hb d_P_calculate_1 (by rw [hk31]; decide) (by rw [hk31]; decide) (by rw [hk31]; rfl) (by decide) ?_
                          refine lv_aload_n hx hb d_P_calculate_154 rfl (lv_at hl 0 rfl) ?_
                          refine cp_g_P_calculator_P X hK hP d_P_calculate_155 ?_
                          refine lv_iload_n hx hb d_P_calculate_158 rfl (lv_at hl 2 rfl) ?_
                          refine lv_iload_n hx hb d_P_calculate_159 rfl (lv_at hl 3 rfl) ?_
                          refine lv_iconst (v := (0 : Int32)) hx hb d_P_calculate_160 (by decide) ?_
                          refine lv_iload hx hb d_P_calculate_161 (lv_at hl 4 rfl) ?_
                          obtain ⟨z32, hz32, hf⟩ := op_b hf
                          refine cf_i (ws2 := (cp_ aY aB aG aP aC cI cT py po cb ga gb gd z32.2 gx gy gu gs gp)) X cx_P_122 hK hP hD hS hA hZ hl (c_tc_C_sum (aG := aG) (aC := aC) (ga := ga) (gb := gb) (gd := gd) (gc := gc) (gx := gx) (gy := gy) (gu := gu) (gs := gs) (gp := gp) hz32) ⟨rfl, rfl, Nat.le_of_ble_eq_true rfl, Nat.le_of_ble_eq_true rfl⟩ [4, 3] [0, 1, 2] [0, 1, 2, 4, 3] rfl rfl rfl rfl (by decide) rfl rfl 0 rfl rfl rfl rfl rfl (Nat.le_of_ble_eq_true rfl) d_P_calculate_163 (fun H locs hP hD hS => ?_)
                          have hq := Option.some.inj hf
                          subst hq
                          exact rt_i (r := z32.1) X hr hlk hK rfl hP hD hS d_P_calculate_166
                        · replace hf := (if_neg hk31).symm.trans hf
                          refine lv_tableOut (tgt := 167) hx hb d_P_calculate_1 (by have q0 := lv_neT hk14 (show Int32.toInt (0 : Int32) = 0 by decide); have q1 := lv_neT hk15 (show Int32.toInt (1 : Int32) = 1 by decide); have q2 := lv_neT hk16 (show Int32.toInt (2 : Int32) = 2 by decide); have q3 := lv_neT hk19 (show Int32.toInt (3 : Int32) = 3 by decide); have q4 := lv_neT hk20 (show Int32.toInt (4 : Int32) = 4 by decide); have q5 := lv_neT hk21 (show Int32.toInt (5 : Int32) = 5 by decide); have q6 := lv_neT hk22 (show Int32.toInt (6 : Int32) = 6 by decide); have q7 := lv_neT hk23 (show Int32.toInt (7 : Int32) = 7 by decide); have q8 := lv_neT hk24 (show Int32.toInt (8 : Int32) = 8 by decide); have q9 := lv_neT hk26 (show Int32.toInt (9 : Int32) = 9 by decide); have q10 := lv_neT hk29 (show Int32.toInt (10 : Int32) = 10 by decide); have q11 := lv_neT hk31 (show Int32.toInt (11 : Int32) = 11 by decide); omega) (by decide) ?_
                          exact J167 x3 x4 gc hf _ _ _ (lv_sub hl [0, 3, 4] rfl) hP hD hS
end CLS

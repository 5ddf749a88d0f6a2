abbrev y_M_expression : MethodName := ⟨"DeckFrontModel", "expression", "(I)Z"⟩
abbrev b_M_expression : ByteArray := prog_8_method_36_code
abbrev w_M_expression : List Cond := (Jvm.Cond.code ({ cls := "DeckFrontModel", name := "expression", desc := "(I)Z" } : Jvm.MethodName) prog_8_method_36_code (9 : Nat) (Option.some Jvm.ClassFile.FieldType.boolean)) :: wG
theorem d_M_expression_0 : decode b_M_expression 0 = .ok (.aload_n 0, 1) := by decide +kernel
theorem d_M_expression_1 : decode b_M_expression 1 = .ok (.iconst 0, 1) := by decide +kernel
theorem d_M_expression_2 : decode b_M_expression 2 = .ok (.putfield 173, 3) := by decide +kernel
theorem d_M_expression_5 : decode b_M_expression 5 = .ok (.aload_n 0, 1) := by decide +kernel
theorem d_M_expression_6 : decode b_M_expression 6 = .ok (.iconst 0, 1) := by decide +kernel
theorem d_M_expression_7 : decode b_M_expression 7 = .ok (.putfield 176, 3) := by decide +kernel
theorem d_M_expression_10 : decode b_M_expression 10 = .ok (.aload_n 0, 1) := by decide +kernel
theorem d_M_expression_11 : decode b_M_expression 11 = .ok (.iconst 0, 1) := by decide +kernel
theorem d_M_expression_12 : decode b_M_expression 12 = .ok (.putfield 179, 3) := by decide +kernel
theorem d_M_expression_15 : decode b_M_expression 15 = .ok (.iload_n 1, 1) := by decide +kernel
theorem d_M_expression_16 : decode b_M_expression 16 = .ok (.istore_n 2, 1) := by decide +kernel
theorem d_M_expression_17 : decode b_M_expression 17 = .ok (.iconst 2, 1) := by decide +kernel
theorem d_M_expression_18 : decode b_M_expression 18 = .ok (.istore_n 3, 1) := by decide +kernel
theorem d_M_expression_19 : decode b_M_expression 19 = .ok (.iconst 1, 1) := by decide +kernel
theorem d_M_expression_20 : decode b_M_expression 20 = .ok (.istore 4, 2) := by decide +kernel
theorem d_M_expression_22 : decode b_M_expression 22 = .ok (.iconst 0, 1) := by decide +kernel
theorem d_M_expression_23 : decode b_M_expression 23 = .ok (.istore 5, 2) := by decide +kernel
theorem d_M_expression_25 : decode b_M_expression 25 = .ok (.iload 5, 2) := by decide +kernel
theorem d_M_expression_27 : decode b_M_expression 27 = .ok (.sipush 300, 3) := by decide +kernel
theorem d_M_expression_30 : decode b_M_expression 30 = .ok (.if_icmp .ge 420, 3) := by decide +kernel
theorem d_M_expression_33 : decode b_M_expression 33 = .ok (.iload 4, 2) := by decide +kernel
theorem d_M_expression_35 : decode b_M_expression 35 = .ok (.ifCond .eq 115, 3) := by decide +kernel
theorem d_M_expression_38 : decode b_M_expression 38 = .ok (.aload_n 0, 1) := by decide +kernel
theorem d_M_expression_39 : decode b_M_expression 39 = .ok (.getfield 179, 3) := by decide +kernel
theorem d_M_expression_42 : decode b_M_expression 42 = .ok (.istore 6, 2) := by decide +kernel
theorem d_M_expression_44 : decode b_M_expression 44 = .ok (.aload_n 0, 1) := by decide +kernel
theorem d_M_expression_45 : decode b_M_expression 45 = .ok (.iload_n 3, 1) := by decide +kernel
theorem d_M_expression_46 : decode b_M_expression 46 = .ok (.iload_n 2, 1) := by decide +kernel
theorem d_M_expression_47 : decode b_M_expression 47 = .ok (.invokevirtual 199, 3) := by decide +kernel
theorem d_M_expression_50 : decode b_M_expression 50 = .ok (.istore 7, 2) := by decide +kernel
theorem d_M_expression_52 : decode b_M_expression 52 = .ok (.iload 7, 2) := by decide +kernel
theorem d_M_expression_54 : decode b_M_expression 54 = .ok (.ifCond .ge 5, 3) := by decide +kernel
theorem d_M_expression_57 : decode b_M_expression 57 = .ok (.iconst 0, 1) := by decide +kernel
theorem d_M_expression_58 : decode b_M_expression 58 = .ok (.ireturn, 1) := by decide +kernel
theorem d_M_expression_59 : decode b_M_expression 59 = .ok (.iload 7, 2) := by decide +kernel
theorem d_M_expression_61 : decode b_M_expression 61 = .ok (.ifCond .ne 7, 3) := by decide +kernel
theorem d_M_expression_64 : decode b_M_expression 64 = .ok (.iconst 1, 1) := by decide +kernel
theorem d_M_expression_65 : decode b_M_expression 65 = .ok (.goto 4, 3) := by decide +kernel
theorem d_M_expression_68 : decode b_M_expression 68 = .ok (.iconst 0, 1) := by decide +kernel
theorem d_M_expression_69 : decode b_M_expression 69 = .ok (.istore 4, 2) := by decide +kernel
theorem d_M_expression_71 : decode b_M_expression 71 = .ok (.aload_n 0, 1) := by decide +kernel
theorem d_M_expression_72 : decode b_M_expression 72 = .ok (.getfield 179, 3) := by decide +kernel
theorem d_M_expression_75 : decode b_M_expression 75 = .ok (.iload 6, 2) := by decide +kernel
theorem d_M_expression_77 : decode b_M_expression 77 = .ok (.if_icmp .le 23, 3) := by decide +kernel
theorem d_M_expression_80 : decode b_M_expression 80 = .ok (.aload_n 0, 1) := by decide +kernel
theorem d_M_expression_81 : decode b_M_expression 81 = .ok (.getfield 60, 3) := by decide +kernel
theorem d_M_expression_84 : decode b_M_expression 84 = .ok (.aload_n 0, 1) := by decide +kernel
theorem d_M_expression_85 : decode b_M_expression 85 = .ok (.getfield 179, 3) := by decide +kernel
theorem d_M_expression_88 : decode b_M_expression 88 = .ok (.iconst 1, 1) := by decide +kernel
theorem d_M_expression_89 : decode b_M_expression 89 = .ok (.isub, 1) := by decide +kernel
theorem d_M_expression_90 : decode b_M_expression 90 = .ok (.iaload, 1) := by decide +kernel
theorem d_M_expression_91 : decode b_M_expression 91 = .ok (.bipush 8, 2) := by decide +kernel
theorem d_M_expression_93 : decode b_M_expression 93 = .ok (.if_icmp .lt 7, 3) := by decide +kernel
theorem d_M_expression_96 : decode b_M_expression 96 = .ok (.iconst 1, 1) := by decide +kernel
theorem d_M_expression_97 : decode b_M_expression 97 = .ok (.goto 4, 3) := by decide +kernel
theorem d_M_expression_100 : decode b_M_expression 100 = .ok (.iconst 0, 1) := by decide +kernel
theorem d_M_expression_101 : decode b_M_expression 101 = .ok (.istore 8, 2) := by decide +kernel
theorem d_M_expression_103 : decode b_M_expression 103 = .ok (.iload 8, 2) := by decide +kernel
theorem d_M_expression_105 : decode b_M_expression 105 = .ok (.ifCond .eq 9, 3) := by decide +kernel
theorem d_M_expression_108 : decode b_M_expression 108 = .ok (.iload_n 2, 1) := by decide +kernel
theorem d_M_expression_109 : decode b_M_expression 109 = .ok (.iconst 1, 1) := by decide +kernel
theorem d_M_expression_110 : decode b_M_expression 110 = .ok (.iadd, 1) := by decide +kernel
theorem d_M_expression_111 : decode b_M_expression 111 = .ok (.goto 4, 3) := by decide +kernel
theorem d_M_expression_114 : decode b_M_expression 114 = .ok (.iload_n 2, 1) := by decide +kernel
theorem d_M_expression_115 : decode b_M_expression 115 = .ok (.istore_n 2, 1) := by decide +kernel
theorem d_M_expression_116 : decode b_M_expression 116 = .ok (.iload 8, 2) := by decide +kernel
theorem d_M_expression_118 : decode b_M_expression 118 = .ok (.ifCond .ne 23, 3) := by decide +kernel
theorem d_M_expression_121 : decode b_M_expression 121 = .ok (.iload 4, 2) := by decide +kernel
theorem d_M_expression_123 : decode b_M_expression 123 = .ok (.ifCond .eq 22, 3) := by decide +kernel
theorem d_M_expression_126 : decode b_M_expression 126 = .ok (.aload_n 0, 1) := by decide +kernel
theorem d_M_expression_127 : decode b_M_expression 127 = .ok (.getfield 60, 3) := by decide +kernel
theorem d_M_expression_130 : decode b_M_expression 130 = .ok (.aload_n 0, 1) := by decide +kernel
theorem d_M_expression_131 : decode b_M_expression 131 = .ok (.getfield 179, 3) := by decide +kernel
theorem d_M_expression_134 : decode b_M_expression 134 = .ok (.iconst 1, 1) := by decide +kernel
theorem d_M_expression_135 : decode b_M_expression 135 = .ok (.isub, 1) := by decide +kernel
theorem d_M_expression_136 : decode b_M_expression 136 = .ok (.iaload, 1) := by decide +kernel
theorem d_M_expression_137 : decode b_M_expression 137 = .ok (.iconst 3, 1) := by decide +kernel
theorem d_M_expression_138 : decode b_M_expression 138 = .ok (.if_icmp .ne 7, 3) := by decide +kernel
theorem d_M_expression_141 : decode b_M_expression 141 = .ok (.iconst 2, 1) := by decide +kernel
theorem d_M_expression_142 : decode b_M_expression 142 = .ok (.goto 4, 3) := by decide +kernel
theorem d_M_expression_145 : decode b_M_expression 145 = .ok (.iconst 0, 1) := by decide +kernel
theorem d_M_expression_146 : decode b_M_expression 146 = .ok (.istore_n 3, 1) := by decide +kernel
theorem d_M_expression_147 : decode b_M_expression 147 = .ok (.goto 297, 3) := by decide +kernel
theorem d_M_expression_150 : decode b_M_expression 150 = .ok (.aload_n 0, 1) := by decide +kernel
theorem d_M_expression_151 : decode b_M_expression 151 = .ok (.invokevirtual 203, 3) := by decide +kernel
theorem d_M_expression_154 : decode b_M_expression 154 = .ok (.istore 6, 2) := by decide +kernel
theorem d_M_expression_156 : decode b_M_expression 156 = .ok (.iload 6, 2) := by decide +kernel
theorem d_M_expression_158 : decode b_M_expression 158 = .ok (.ifCond .le 130, 3) := by decide +kernel
theorem d_M_expression_161 : decode b_M_expression 161 = .ok (.iload 6, 2) := by decide +kernel
theorem d_M_expression_163 : decode b_M_expression 163 = .ok (.iconst 4, 1) := by decide +kernel
theorem d_M_expression_164 : decode b_M_expression 164 = .ok (.if_icmp .ne 10, 3) := by decide +kernel
theorem d_M_expression_167 : decode b_M_expression 167 = .ok (.aload_n 0, 1) := by decide +kernel
theorem d_M_expression_168 : decode b_M_expression 168 = .ok (.invokevirtual 207, 3) := by decide +kernel
theorem d_M_expression_171 : decode b_M_expression 171 = .ok (.ifCond .ne 117, 3) := by decide +kernel
theorem d_M_expression_174 : decode b_M_expression 174 = .ok (.aload_n 0, 1) := by decide +kernel
theorem d_M_expression_175 : decode b_M_expression 175 = .ok (.getfield 126, 3) := by decide +kernel
theorem d_M_expression_178 : decode b_M_expression 178 = .ok (.istore 7, 2) := by decide +kernel
theorem d_M_expression_180 : decode b_M_expression 180 = .ok (.aload_n 0, 1) := by decide +kernel
theorem d_M_expression_181 : decode b_M_expression 181 = .ok (.iload 6, 2) := by decide +kernel
theorem d_M_expression_183 : decode b_M_expression 183 = .ok (.bipush 7, 2) := by decide +kernel
theorem d_M_expression_185 : decode b_M_expression 185 = .ok (.if_icmp .ne 12, 3) := by decide +kernel
theorem d_M_expression_188 : decode b_M_expression 188 = .ok (.aload_n 0, 1) := by decide +kernel
theorem d_M_expression_189 : decode b_M_expression 189 = .ok (.getfield 126, 3) := by decide +kernel
theorem d_M_expression_192 : decode b_M_expression 192 = .ok (.iconst 2, 1) := by decide +kernel
theorem d_M_expression_193 : decode b_M_expression 193 = .ok (.iadd, 1) := by decide +kernel
theorem d_M_expression_194 : decode b_M_expression 194 = .ok (.goto 26, 3) := by decide +kernel
theorem d_M_expression_197 : decode b_M_expression 197 = .ok (.iload 6, 2) := by decide +kernel
theorem d_M_expression_199 : decode b_M_expression 199 = .ok (.iconst 5, 1) := by decide +kernel
theorem d_M_expression_200 : decode b_M_expression 200 = .ok (.if_icmp .ge 14, 3) := by decide +kernel
theorem d_M_expression_203 : decode b_M_expression 203 = .ok (.aload_n 0, 1) := by decide +kernel
theorem d_M_expression_204 : decode b_M_expression 204 = .ok (.aload_n 0, 1) := by decide +kernel
theorem d_M_expression_205 : decode b_M_expression 205 = .ok (.getfield 126, 3) := by decide +kernel
theorem d_M_expression_208 : decode b_M_expression 208 = .ok (.invokevirtual 196, 3) := by decide +kernel
theorem d_M_expression_211 : decode b_M_expression 211 = .ok (.goto 9, 3) := by decide +kernel
theorem d_M_expression_214 : decode b_M_expression 214 = .ok (.aload_n 0, 1) := by decide +kernel
theorem d_M_expression_215 : decode b_M_expression 215 = .ok (.getfield 126, 3) := by decide +kernel
theorem d_M_expression_218 : decode b_M_expression 218 = .ok (.iconst 1, 1) := by decide +kernel
theorem d_M_expression_219 : decode b_M_expression 219 = .ok (.iadd, 1) := by decide +kernel
theorem d_M_expression_220 : decode b_M_expression 220 = .ok (.putfield 126, 3) := by decide +kernel
theorem d_M_expression_223 : decode b_M_expression 223 = .ok (.aload_n 0, 1) := by decide +kernel
theorem d_M_expression_224 : decode b_M_expression 224 = .ok (.iload 6, 2) := by decide +kernel
theorem d_M_expression_226 : decode b_M_expression 226 = .ok (.bipush 7, 2) := by decide +kernel
theorem d_M_expression_228 : decode b_M_expression 228 = .ok (.if_icmp .ne 8, 3) := by decide +kernel
theorem d_M_expression_231 : decode b_M_expression 231 = .ok (.bipush 8, 2) := by decide +kernel
theorem d_M_expression_233 : decode b_M_expression 233 = .ok (.goto 5, 3) := by decide +kernel
theorem d_M_expression_236 : decode b_M_expression 236 = .ok (.iload 6, 2) := by decide +kernel
theorem d_M_expression_238 : decode b_M_expression 238 = .ok (.invokevirtual 210, 3) := by decide +kernel
theorem d_M_expression_241 : decode b_M_expression 241 = .ok (.aload_n 0, 1) := by decide +kernel
theorem d_M_expression_242 : decode b_M_expression 242 = .ok (.iload 6, 2) := by decide +kernel
theorem d_M_expression_244 : decode b_M_expression 244 = .ok (.iload 7, 2) := by decide +kernel
theorem d_M_expression_246 : decode b_M_expression 246 = .ok (.aload_n 0, 1) := by decide +kernel
theorem d_M_expression_247 : decode b_M_expression 247 = .ok (.getfield 126, 3) := by decide +kernel
theorem d_M_expression_250 : decode b_M_expression 250 = .ok (.iconst 0, 1) := by decide +kernel
theorem d_M_expression_251 : decode b_M_expression 251 = .ok (.invokevirtual 192, 3) := by decide +kernel
theorem d_M_expression_254 : decode b_M_expression 254 = .ok (.iconst 1, 1) := by decide +kernel
theorem d_M_expression_255 : decode b_M_expression 255 = .ok (.istore 4, 2) := by decide +kernel
theorem d_M_expression_257 : decode b_M_expression 257 = .ok (.iload 6, 2) := by decide +kernel
theorem d_M_expression_259 : decode b_M_expression 259 = .ok (.iconst 1, 1) := by decide +kernel
theorem d_M_expression_260 : decode b_M_expression 260 = .ok (.if_icmp .eq 9, 3) := by decide +kernel
theorem d_M_expression_263 : decode b_M_expression 263 = .ok (.iload 6, 2) := by decide +kernel
theorem d_M_expression_265 : decode b_M_expression 265 = .ok (.iconst 2, 1) := by decide +kernel
theorem d_M_expression_266 : decode b_M_expression 266 = .ok (.if_icmp .ne 7, 3) := by decide +kernel
theorem d_M_expression_269 : decode b_M_expression 269 = .ok (.iconst 2, 1) := by decide +kernel
theorem d_M_expression_270 : decode b_M_expression 270 = .ok (.goto 14, 3) := by decide +kernel
theorem d_M_expression_273 : decode b_M_expression 273 = .ok (.iload 6, 2) := by decide +kernel
theorem d_M_expression_275 : decode b_M_expression 275 = .ok (.iconst 4, 1) := by decide +kernel
theorem d_M_expression_276 : decode b_M_expression 276 = .ok (.if_icmp .ne 7, 3) := by decide +kernel
theorem d_M_expression_279 : decode b_M_expression 279 = .ok (.iconst 1, 1) := by decide +kernel
theorem d_M_expression_280 : decode b_M_expression 280 = .ok (.goto 4, 3) := by decide +kernel
theorem d_M_expression_283 : decode b_M_expression 283 = .ok (.iconst 0, 1) := by decide +kernel
theorem d_M_expression_284 : decode b_M_expression 284 = .ok (.istore_n 3, 1) := by decide +kernel
theorem d_M_expression_285 : decode b_M_expression 285 = .ok (.goto 159, 3) := by decide +kernel
theorem d_M_expression_288 : decode b_M_expression 288 = .ok (.aload_n 0, 1) := by decide +kernel
theorem d_M_expression_289 : decode b_M_expression 289 = .ok (.iconst 1, 1) := by decide +kernel
theorem d_M_expression_290 : decode b_M_expression 290 = .ok (.invokevirtual 210, 3) := by decide +kernel
theorem d_M_expression_293 : decode b_M_expression 293 = .ok (.aload_n 0, 1) := by decide +kernel
theorem d_M_expression_294 : decode b_M_expression 294 = .ok (.getfield 179, 3) := by decide +kernel
theorem d_M_expression_297 : decode b_M_expression 297 = .ok (.ifCond .ne 15, 3) := by decide +kernel
theorem d_M_expression_300 : decode b_M_expression 300 = .ok (.aload_n 0, 1) := by decide +kernel
theorem d_M_expression_301 : decode b_M_expression 301 = .ok (.aload_n 0, 1) := by decide +kernel
theorem d_M_expression_302 : decode b_M_expression 302 = .ok (.getfield 57, 3) := by decide +kernel
theorem d_M_expression_305 : decode b_M_expression 305 = .ok (.iconst 0, 1) := by decide +kernel
theorem d_M_expression_306 : decode b_M_expression 306 = .ok (.iaload, 1) := by decide +kernel
theorem d_M_expression_307 : decode b_M_expression 307 = .ok (.invokevirtual 213, 3) := by decide +kernel
theorem d_M_expression_310 : decode b_M_expression 310 = .ok (.iconst 1, 1) := by decide +kernel
theorem d_M_expression_311 : decode b_M_expression 311 = .ok (.ireturn, 1) := by decide +kernel
theorem d_M_expression_312 : decode b_M_expression 312 = .ok (.aload_n 0, 1) := by decide +kernel
theorem d_M_expression_313 : decode b_M_expression 313 = .ok (.getfield 60, 3) := by decide +kernel
theorem d_M_expression_316 : decode b_M_expression 316 = .ok (.aload_n 0, 1) := by decide +kernel
theorem d_M_expression_317 : decode b_M_expression 317 = .ok (.getfield 179, 3) := by decide +kernel
theorem d_M_expression_320 : decode b_M_expression 320 = .ok (.iconst 1, 1) := by decide +kernel
theorem d_M_expression_321 : decode b_M_expression 321 = .ok (.isub, 1) := by decide +kernel
theorem d_M_expression_322 : decode b_M_expression 322 = .ok (.iaload, 1) := by decide +kernel
theorem d_M_expression_323 : decode b_M_expression 323 = .ok (.bipush 9, 2) := by decide +kernel
theorem d_M_expression_325 : decode b_M_expression 325 = .ok (.if_icmp .ne 7, 3) := by decide +kernel
theorem d_M_expression_328 : decode b_M_expression 328 = .ok (.iconst 1, 1) := by decide +kernel
theorem d_M_expression_329 : decode b_M_expression 329 = .ok (.goto 4, 3) := by decide +kernel
theorem d_M_expression_332 : decode b_M_expression 332 = .ok (.iconst 0, 1) := by decide +kernel
theorem d_M_expression_333 : decode b_M_expression 333 = .ok (.istore 7, 2) := by decide +kernel
theorem d_M_expression_335 : decode b_M_expression 335 = .ok (.aload_n 0, 1) := by decide +kernel
theorem d_M_expression_336 : decode b_M_expression 336 = .ok (.aload_n 0, 1) := by decide +kernel
theorem d_M_expression_337 : decode b_M_expression 337 = .ok (.getfield 126, 3) := by decide +kernel
theorem d_M_expression_340 : decode b_M_expression 340 = .ok (.invokevirtual 129, 3) := by decide +kernel
theorem d_M_expression_343 : decode b_M_expression 343 = .ok (.bipush 41, 2) := by decide +kernel
theorem d_M_expression_345 : decode b_M_expression 345 = .ok (.if_icmp .eq 23, 3) := by decide +kernel
theorem d_M_expression_348 : decode b_M_expression 348 = .ok (.aload_n 0, 1) := by decide +kernel
theorem d_M_expression_349 : decode b_M_expression 349 = .ok (.aload_n 0, 1) := by decide +kernel
theorem d_M_expression_350 : decode b_M_expression 350 = .ok (.getfield 126, 3) := by decide +kernel
theorem d_M_expression_353 : decode b_M_expression 353 = .ok (.invokevirtual 129, 3) := by decide +kernel
theorem d_M_expression_356 : decode b_M_expression 356 = .ok (.bipush 44, 2) := by decide +kernel
theorem d_M_expression_358 : decode b_M_expression 358 = .ok (.if_icmp .ne 8, 3) := by decide +kernel
theorem d_M_expression_361 : decode b_M_expression 361 = .ok (.iload 7, 2) := by decide +kernel
theorem d_M_expression_363 : decode b_M_expression 363 = .ok (.ifCond .ne 5, 3) := by decide +kernel
theorem d_M_expression_366 : decode b_M_expression 366 = .ok (.iconst 0, 1) := by decide +kernel
theorem d_M_expression_367 : decode b_M_expression 367 = .ok (.ireturn, 1) := by decide +kernel
theorem d_M_expression_368 : decode b_M_expression 368 = .ok (.aload_n 0, 1) := by decide +kernel
theorem d_M_expression_369 : decode b_M_expression 369 = .ok (.aload_n 0, 1) := by decide +kernel
theorem d_M_expression_370 : decode b_M_expression 370 = .ok (.getfield 126, 3) := by decide +kernel
theorem d_M_expression_373 : decode b_M_expression 373 = .ok (.invokevirtual 129, 3) := by decide +kernel
theorem d_M_expression_376 : decode b_M_expression 376 = .ok (.bipush 44, 2) := by decide +kernel
theorem d_M_expression_378 : decode b_M_expression 378 = .ok (.if_icmp .ne 7, 3) := by decide +kernel
theorem d_M_expression_381 : decode b_M_expression 381 = .ok (.iconst 1, 1) := by decide +kernel
theorem d_M_expression_382 : decode b_M_expression 382 = .ok (.goto 4, 3) := by decide +kernel
theorem d_M_expression_385 : decode b_M_expression 385 = .ok (.iconst 0, 1) := by decide +kernel
theorem d_M_expression_386 : decode b_M_expression 386 = .ok (.istore 4, 2) := by decide +kernel
theorem d_M_expression_388 : decode b_M_expression 388 = .ok (.aload_n 0, 1) := by decide +kernel
theorem d_M_expression_389 : decode b_M_expression 389 = .ok (.dup, 1) := by decide +kernel
theorem d_M_expression_390 : decode b_M_expression 390 = .ok (.getfield 126, 3) := by decide +kernel
theorem d_M_expression_393 : decode b_M_expression 393 = .ok (.iconst 1, 1) := by decide +kernel
theorem d_M_expression_394 : decode b_M_expression 394 = .ok (.iadd, 1) := by decide +kernel
theorem d_M_expression_395 : decode b_M_expression 395 = .ok (.putfield 126, 3) := by decide +kernel
theorem d_M_expression_398 : decode b_M_expression 398 = .ok (.iload 7, 2) := by decide +kernel
theorem d_M_expression_400 : decode b_M_expression 400 = .ok (.ifCond .eq 7, 3) := by decide +kernel
theorem d_M_expression_403 : decode b_M_expression 403 = .ok (.aload_n 0, 1) := by decide +kernel
theorem d_M_expression_404 : decode b_M_expression 404 = .ok (.invokevirtual 216, 3) := by decide +kernel
theorem d_M_expression_407 : decode b_M_expression 407 = .ok (.aload_n 0, 1) := by decide +kernel
theorem d_M_expression_408 : decode b_M_expression 408 = .ok (.iload 4, 2) := by decide +kernel
theorem d_M_expression_410 : decode b_M_expression 410 = .ok (.ifCond .eq 10, 3) := by decide +kernel
theorem d_M_expression_413 : decode b_M_expression 413 = .ok (.aload_n 0, 1) := by decide +kernel
theorem d_M_expression_414 : decode b_M_expression 414 = .ok (.getfield 179, 3) := by decide +kernel
theorem d_M_expression_417 : decode b_M_expression 417 = .ok (.goto 9, 3) := by decide +kernel
theorem d_M_expression_420 : decode b_M_expression 420 = .ok (.aload_n 0, 1) := by decide +kernel
theorem d_M_expression_421 : decode b_M_expression 421 = .ok (.getfield 179, 3) := by decide +kernel
theorem d_M_expression_424 : decode b_M_expression 424 = .ok (.iconst 1, 1) := by decide +kernel
theorem d_M_expression_425 : decode b_M_expression 425 = .ok (.isub, 1) := by decide +kernel
theorem d_M_expression_426 : decode b_M_expression 426 = .ok (.putfield 179, 3) := by decide +kernel
theorem d_M_expression_429 : decode b_M_expression 429 = .ok (.iload 4, 2) := by decide +kernel
theorem d_M_expression_431 : decode b_M_expression 431 = .ok (.ifCond .eq 7, 3) := by decide +kernel
theorem d_M_expression_434 : decode b_M_expression 434 = .ok (.iload_n 2, 1) := by decide +kernel
theorem d_M_expression_435 : decode b_M_expression 435 = .ok (.goto 6, 3) := by decide +kernel
theorem d_M_expression_438 : decode b_M_expression 438 = .ok (.iload_n 2, 1) := by decide +kernel
theorem d_M_expression_439 : decode b_M_expression 439 = .ok (.iconst 1, 1) := by decide +kernel
theorem d_M_expression_440 : decode b_M_expression 440 = .ok (.isub, 1) := by decide +kernel
theorem d_M_expression_441 : decode b_M_expression 441 = .ok (.istore_n 2, 1) := by decide +kernel
theorem d_M_expression_442 : decode b_M_expression 442 = .ok (.iconst 2, 1) := by decide +kernel
theorem d_M_expression_443 : decode b_M_expression 443 = .ok (.istore_n 3, 1) := by decide +kernel
theorem d_M_expression_444 : decode b_M_expression 444 = .ok (.iinc 5 1, 3) := by decide +kernel
theorem d_M_expression_447 : decode b_M_expression 447 = .ok (.goto (-422), 3) := by decide +kernel
theorem d_M_expression_450 : decode b_M_expression 450 = .ok (.iconst 0, 1) := by decide +kernel
theorem d_M_expression_451 : decode b_M_expression 451 = .ok (.ireturn, 1) := by decide +kernel
abbrev y_M_expressions : MethodName := ⟨"DeckFrontModel", "expressions", "(I)Z"⟩
abbrev b_M_expressions : ByteArray := prog_8_method_38_code
abbrev w_M_expressions : List Cond := (Jvm.Cond.code ({ cls := "DeckFrontModel", name := "expressions", desc := "(I)Z" } : Jvm.MethodName) prog_8_method_38_code (3 : Nat) (Option.some Jvm.ClassFile.FieldType.boolean)) :: wG
theorem d_M_expressions_0 : decode b_M_expressions 0 = .ok (.aload_n 0, 1) := by decide +kernel
theorem d_M_expressions_1 : decode b_M_expressions 1 = .ok (.iload_n 1, 1) := by decide +kernel
theorem d_M_expressions_2 : decode b_M_expressions 2 = .ok (.invokevirtual 219, 3) := by decide +kernel
theorem d_M_expressions_5 : decode b_M_expressions 5 = .ok (.istore_n 2, 1) := by decide +kernel
theorem d_M_expressions_6 : decode b_M_expressions 6 = .ok (.iload_n 2, 1) := by decide +kernel
theorem d_M_expressions_7 : decode b_M_expressions 7 = .ok (.ifCond .eq 41, 3) := by decide +kernel
theorem d_M_expressions_10 : decode b_M_expressions 10 = .ok (.aload_n 0, 1) := by decide +kernel
theorem d_M_expressions_11 : decode b_M_expressions 11 = .ok (.aload_n 0, 1) := by decide +kernel
theorem d_M_expressions_12 : decode b_M_expressions 12 = .ok (.getfield 126, 3) := by decide +kernel
theorem d_M_expressions_15 : decode b_M_expressions 15 = .ok (.invokevirtual 129, 3) := by decide +kernel
theorem d_M_expressions_18 : decode b_M_expressions 18 = .ok (.bipush 44, 2) := by decide +kernel
theorem d_M_expressions_20 : decode b_M_expressions 20 = .ok (.if_icmp .ne 28, 3) := by decide +kernel
theorem d_M_expressions_23 : decode b_M_expressions 23 = .ok (.aload_n 0, 1) := by decide +kernel
theorem d_M_expressions_24 : decode b_M_expressions 24 = .ok (.bipush 44, 2) := by decide +kernel
theorem d_M_expressions_26 : decode b_M_expressions 26 = .ok (.invokevirtual 122, 3) := by decide +kernel
theorem d_M_expressions_29 : decode b_M_expressions 29 = .ok (.aload_n 0, 1) := by decide +kernel
theorem d_M_expressions_30 : decode b_M_expressions 30 = .ok (.dup, 1) := by decide +kernel
theorem d_M_expressions_31 : decode b_M_expressions 31 = .ok (.getfield 126, 3) := by decide +kernel
theorem d_M_expressions_34 : decode b_M_expressions 34 = .ok (.iconst 1, 1) := by decide +kernel
theorem d_M_expressions_35 : decode b_M_expressions 35 = .ok (.iadd, 1) := by decide +kernel
theorem d_M_expressions_36 : decode b_M_expressions 36 = .ok (.putfield 126, 3) := by decide +kernel
theorem d_M_expressions_39 : decode b_M_expressions 39 = .ok (.aload_n 0, 1) := by decide +kernel
theorem d_M_expressions_40 : decode b_M_expressions 40 = .ok (.iload_n 1, 1) := by decide +kernel
theorem d_M_expressions_41 : decode b_M_expressions 41 = .ok (.invokevirtual 219, 3) := by decide +kernel
theorem d_M_expressions_44 : decode b_M_expressions 44 = .ok (.istore_n 2, 1) := by decide +kernel
theorem d_M_expressions_45 : decode b_M_expressions 45 = .ok (.goto (-39), 3) := by decide +kernel
theorem d_M_expressions_48 : decode b_M_expressions 48 = .ok (.iload_n 2, 1) := by decide +kernel
theorem d_M_expressions_49 : decode b_M_expressions 49 = .ok (.ireturn, 1) := by decide +kernel
abbrev y_M_nameWithList : MethodName := ⟨"DeckFrontModel", "nameWithList", "(II)Z"⟩
abbrev b_M_nameWithList : ByteArray := prog_8_method_39_code
abbrev w_M_nameWithList : List Cond := (Jvm.Cond.code ({ cls := "DeckFrontModel", name := "nameWithList", desc := "(II)Z" } : Jvm.MethodName) prog_8_method_39_code (5 : Nat) (Option.some Jvm.ClassFile.FieldType.boolean)) :: wG
theorem d_M_nameWithList_0 : decode b_M_nameWithList 0 = .ok (.aload_n 0, 1) := by decide +kernel
theorem d_M_nameWithList_1 : decode b_M_nameWithList 1 = .ok (.aload_n 0, 1) := by decide +kernel
theorem d_M_nameWithList_2 : decode b_M_nameWithList 2 = .ok (.getfield 126, 3) := by decide +kernel
theorem d_M_nameWithList_5 : decode b_M_nameWithList 5 = .ok (.invokevirtual 141, 3) := by decide +kernel
theorem d_M_nameWithList_8 : decode b_M_nameWithList 8 = .ok (.istore_n 3, 1) := by decide +kernel
theorem d_M_nameWithList_9 : decode b_M_nameWithList 9 = .ok (.aload_n 0, 1) := by decide +kernel
theorem d_M_nameWithList_10 : decode b_M_nameWithList 10 = .ok (.iload_n 3, 1) := by decide +kernel
theorem d_M_nameWithList_11 : decode b_M_nameWithList 11 = .ok (.invokevirtual 129, 3) := by decide +kernel
theorem d_M_nameWithList_14 : decode b_M_nameWithList 14 = .ok (.bipush 40, 2) := by decide +kernel
theorem d_M_nameWithList_16 : decode b_M_nameWithList 16 = .ok (.if_icmp .ne 7, 3) := by decide +kernel
theorem d_M_nameWithList_19 : decode b_M_nameWithList 19 = .ok (.iconst 1, 1) := by decide +kernel
theorem d_M_nameWithList_20 : decode b_M_nameWithList 20 = .ok (.goto 4, 3) := by decide +kernel
theorem d_M_nameWithList_23 : decode b_M_nameWithList 23 = .ok (.iconst 0, 1) := by decide +kernel
theorem d_M_nameWithList_24 : decode b_M_nameWithList 24 = .ok (.istore 4, 2) := by decide +kernel
theorem d_M_nameWithList_26 : decode b_M_nameWithList 26 = .ok (.aload_n 0, 1) := by decide +kernel
theorem d_M_nameWithList_27 : decode b_M_nameWithList 27 = .ok (.iload 4, 2) := by decide +kernel
theorem d_M_nameWithList_29 : decode b_M_nameWithList 29 = .ok (.ifCond .eq 7, 3) := by decide +kernel
theorem d_M_nameWithList_32 : decode b_M_nameWithList 32 = .ok (.iload_n 2, 1) := by decide +kernel
theorem d_M_nameWithList_33 : decode b_M_nameWithList 33 = .ok (.goto 4, 3) := by decide +kernel
theorem d_M_nameWithList_36 : decode b_M_nameWithList 36 = .ok (.iload_n 1, 1) := by decide +kernel
theorem d_M_nameWithList_37 : decode b_M_nameWithList 37 = .ok (.iconst 0, 1) := by decide +kernel
theorem d_M_nameWithList_38 : decode b_M_nameWithList 38 = .ok (.invokevirtual 222, 3) := by decide +kernel
theorem d_M_nameWithList_41 : decode b_M_nameWithList 41 = .ok (.ifCond .ne 5, 3) := by decide +kernel
theorem d_M_nameWithList_44 : decode b_M_nameWithList 44 = .ok (.iconst 0, 1) := by decide +kernel
theorem d_M_nameWithList_45 : decode b_M_nameWithList 45 = .ok (.ireturn, 1) := by decide +kernel
theorem d_M_nameWithList_46 : decode b_M_nameWithList 46 = .ok (.iload 4, 2) := by decide +kernel
theorem d_M_nameWithList_48 : decode b_M_nameWithList 48 = .ok (.ifCond .eq 29, 3) := by decide +kernel
theorem d_M_nameWithList_51 : decode b_M_nameWithList 51 = .ok (.aload_n 0, 1) := by decide +kernel
theorem d_M_nameWithList_52 : decode b_M_nameWithList 52 = .ok (.bipush 40, 2) := by decide +kernel
theorem d_M_nameWithList_54 : decode b_M_nameWithList 54 = .ok (.invokevirtual 226, 3) := by decide +kernel
theorem d_M_nameWithList_57 : decode b_M_nameWithList 57 = .ok (.ifCond .eq 24, 3) := by decide +kernel
theorem d_M_nameWithList_60 : decode b_M_nameWithList 60 = .ok (.aload_n 0, 1) := by decide +kernel
theorem d_M_nameWithList_61 : decode b_M_nameWithList 61 = .ok (.iconst 1, 1) := by decide +kernel
theorem d_M_nameWithList_62 : decode b_M_nameWithList 62 = .ok (.invokevirtual 229, 3) := by decide +kernel
theorem d_M_nameWithList_65 : decode b_M_nameWithList 65 = .ok (.ifCond .eq 16, 3) := by decide +kernel
theorem d_M_nameWithList_68 : decode b_M_nameWithList 68 = .ok (.aload_n 0, 1) := by decide +kernel
theorem d_M_nameWithList_69 : decode b_M_nameWithList 69 = .ok (.bipush 41, 2) := by decide +kernel
theorem d_M_nameWithList_71 : decode b_M_nameWithList 71 = .ok (.invokevirtual 226, 3) := by decide +kernel
theorem d_M_nameWithList_74 : decode b_M_nameWithList 74 = .ok (.ifCond .eq 7, 3) := by decide +kernel
theorem d_M_nameWithList_77 : decode b_M_nameWithList 77 = .ok (.iconst 1, 1) := by decide +kernel
theorem d_M_nameWithList_78 : decode b_M_nameWithList 78 = .ok (.goto 4, 3) := by decide +kernel
theorem d_M_nameWithList_81 : decode b_M_nameWithList 81 = .ok (.iconst 0, 1) := by decide +kernel
theorem d_M_nameWithList_82 : decode b_M_nameWithList 82 = .ok (.ireturn, 1) := by decide +kernel
abbrev y_M_isDo : MethodName := ⟨"DeckFrontModel", "isDo", "()Z"⟩
abbrev b_M_isDo : ByteArray := prog_8_method_40_code
abbrev w_M_isDo : List Cond := (Jvm.Cond.code ({ cls := "DeckFrontModel", name := "isDo", desc := "()Z" } : Jvm.MethodName) prog_8_method_40_code (2 : Nat) (Option.some Jvm.ClassFile.FieldType.boolean)) :: wG
theorem d_M_isDo_0 : decode b_M_isDo 0 = .ok (.aload_n 0, 1) := by decide +kernel
theorem d_M_isDo_1 : decode b_M_isDo 1 = .ok (.ldc2_w 232, 3) := by decide +kernel
theorem d_M_isDo_4 : decode b_M_isDo 4 = .ok (.invokevirtual 234, 3) := by decide +kernel
theorem d_M_isDo_7 : decode b_M_isDo 7 = .ok (.ifCond .ne 5, 3) := by decide +kernel
theorem d_M_isDo_10 : decode b_M_isDo 10 = .ok (.iconst 0, 1) := by decide +kernel
theorem d_M_isDo_11 : decode b_M_isDo 11 = .ok (.ireturn, 1) := by decide +kernel
theorem d_M_isDo_12 : decode b_M_isDo 12 = .ok (.aload_n 0, 1) := by decide +kernel
theorem d_M_isDo_13 : decode b_M_isDo 13 = .ok (.iconst 5, 1) := by decide +kernel
theorem d_M_isDo_14 : decode b_M_isDo 14 = .ok (.invokevirtual 238, 3) := by decide +kernel
theorem d_M_isDo_17 : decode b_M_isDo 17 = .ok (.istore_n 1, 1) := by decide +kernel
theorem d_M_isDo_18 : decode b_M_isDo 18 = .ok (.aload_n 0, 1) := by decide +kernel
theorem d_M_isDo_19 : decode b_M_isDo 19 = .ok (.invokevirtual 241, 3) := by decide +kernel
theorem d_M_isDo_22 : decode b_M_isDo 22 = .ok (.aload_n 0, 1) := by decide +kernel
theorem d_M_isDo_23 : decode b_M_isDo 23 = .ok (.getfield 36, 3) := by decide +kernel
theorem d_M_isDo_26 : decode b_M_isDo 26 = .ok (.iconst 0, 1) := by decide +kernel
theorem d_M_isDo_27 : decode b_M_isDo 27 = .ok (.iload_n 1, 1) := by decide +kernel
theorem d_M_isDo_28 : decode b_M_isDo 28 = .ok (.iastore, 1) := by decide +kernel
theorem d_M_isDo_29 : decode b_M_isDo 29 = .ok (.aload_n 0, 1) := by decide +kernel
theorem d_M_isDo_30 : decode b_M_isDo 30 = .ok (.iconst 1, 1) := by decide +kernel
theorem d_M_isDo_31 : decode b_M_isDo 31 = .ok (.putfield 244, 3) := by decide +kernel
theorem d_M_isDo_34 : decode b_M_isDo 34 = .ok (.iload_n 1, 1) := by decide +kernel
theorem d_M_isDo_35 : decode b_M_isDo 35 = .ok (.ifCond .lt 91, 3) := by decide +kernel
theorem d_M_isDo_38 : decode b_M_isDo 38 = .ok (.aload_n 0, 1) := by decide +kernel
theorem d_M_isDo_39 : decode b_M_isDo 39 = .ok (.iconst 4, 1) := by decide +kernel
theorem d_M_isDo_40 : decode b_M_isDo 40 = .ok (.iconst 0, 1) := by decide +kernel
theorem d_M_isDo_41 : decode b_M_isDo 41 = .ok (.invokevirtual 222, 3) := by decide +kernel
theorem d_M_isDo_44 : decode b_M_isDo 44 = .ok (.ifCond .eq 82, 3) := by decide +kernel
theorem d_M_isDo_47 : decode b_M_isDo 47 = .ok (.aload_n 0, 1) := by decide +kernel
theorem d_M_isDo_48 : decode b_M_isDo 48 = .ok (.bipush 61, 2) := by decide +kernel
theorem d_M_isDo_50 : decode b_M_isDo 50 = .ok (.invokevirtual 226, 3) := by decide +kernel
theorem d_M_isDo_53 : decode b_M_isDo 53 = .ok (.ifCond .eq 73, 3) := by decide +kernel
theorem d_M_isDo_56 : decode b_M_isDo 56 = .ok (.aload_n 0, 1) := by decide +kernel
theorem d_M_isDo_57 : decode b_M_isDo 57 = .ok (.iconst 0, 1) := by decide +kernel
theorem d_M_isDo_58 : decode b_M_isDo 58 = .ok (.invokevirtual 219, 3) := by decide +kernel
theorem d_M_isDo_61 : decode b_M_isDo 61 = .ok (.ifCond .eq 65, 3) := by decide +kernel
theorem d_M_isDo_64 : decode b_M_isDo 64 = .ok (.aload_n 0, 1) := by decide +kernel
theorem d_M_isDo_65 : decode b_M_isDo 65 = .ok (.bipush 44, 2) := by decide +kernel
theorem d_M_isDo_67 : decode b_M_isDo 67 = .ok (.invokevirtual 226, 3) := by decide +kernel
theorem d_M_isDo_70 : decode b_M_isDo 70 = .ok (.ifCond .eq 56, 3) := by decide +kernel
theorem d_M_isDo_73 : decode b_M_isDo 73 = .ok (.aload_n 0, 1) := by decide +kernel
theorem d_M_isDo_74 : decode b_M_isDo 74 = .ok (.iconst 0, 1) := by decide +kernel
theorem d_M_isDo_75 : decode b_M_isDo 75 = .ok (.invokevirtual 219, 3) := by decide +kernel
theorem d_M_isDo_78 : decode b_M_isDo 78 = .ok (.ifCond .eq 48, 3) := by decide +kernel
theorem d_M_isDo_81 : decode b_M_isDo 81 = .ok (.aload_n 0, 1) := by decide +kernel
theorem d_M_isDo_82 : decode b_M_isDo 82 = .ok (.aload_n 0, 1) := by decide +kernel
theorem d_M_isDo_83 : decode b_M_isDo 83 = .ok (.getfield 126, 3) := by decide +kernel
theorem d_M_isDo_86 : decode b_M_isDo 86 = .ok (.invokevirtual 129, 3) := by decide +kernel
theorem d_M_isDo_89 : decode b_M_isDo 89 = .ok (.bipush 44, 2) := by decide +kernel
theorem d_M_isDo_91 : decode b_M_isDo 91 = .ok (.if_icmp .ne 20, 3) := by decide +kernel
theorem d_M_isDo_94 : decode b_M_isDo 94 = .ok (.aload_n 0, 1) := by decide +kernel
theorem d_M_isDo_95 : decode b_M_isDo 95 = .ok (.bipush 44, 2) := by decide +kernel
theorem d_M_isDo_97 : decode b_M_isDo 97 = .ok (.invokevirtual 226, 3) := by decide +kernel
theorem d_M_isDo_100 : decode b_M_isDo 100 = .ok (.ifCond .eq 26, 3) := by decide +kernel
theorem d_M_isDo_103 : decode b_M_isDo 103 = .ok (.aload_n 0, 1) := by decide +kernel
theorem d_M_isDo_104 : decode b_M_isDo 104 = .ok (.iconst 0, 1) := by decide +kernel
theorem d_M_isDo_105 : decode b_M_isDo 105 = .ok (.invokevirtual 219, 3) := by decide +kernel
theorem d_M_isDo_108 : decode b_M_isDo 108 = .ok (.ifCond .eq 18, 3) := by decide +kernel
theorem d_M_isDo_111 : decode b_M_isDo 111 = .ok (.aload_n 0, 1) := by decide +kernel
theorem d_M_isDo_112 : decode b_M_isDo 112 = .ok (.getfield 126, 3) := by decide +kernel
theorem d_M_isDo_115 : decode b_M_isDo 115 = .ok (.aload_n 0, 1) := by decide +kernel
theorem d_M_isDo_116 : decode b_M_isDo 116 = .ok (.getfield 116, 3) := by decide +kernel
theorem d_M_isDo_119 : decode b_M_isDo 119 = .ok (.if_icmp .ne 7, 3) := by decide +kernel
theorem d_M_isDo_122 : decode b_M_isDo 122 = .ok (.iconst 1, 1) := by decide +kernel
theorem d_M_isDo_123 : decode b_M_isDo 123 = .ok (.goto 4, 3) := by decide +kernel
theorem d_M_isDo_126 : decode b_M_isDo 126 = .ok (.iconst 0, 1) := by decide +kernel
theorem d_M_isDo_127 : decode b_M_isDo 127 = .ok (.ireturn, 1) := by decide +kernel
abbrev y_M_isAssignment : MethodName := ⟨"DeckFrontModel", "isAssignment", "()Z"⟩
abbrev b_M_isAssignment : ByteArray := prog_8_method_41_code
abbrev w_M_isAssignment : List Cond := (Jvm.Cond.code ({ cls := "DeckFrontModel", name := "isAssignment", desc := "()Z" } : Jvm.MethodName) prog_8_method_41_code (1 : Nat) (Option.some Jvm.ClassFile.FieldType.boolean)) :: wG
theorem d_M_isAssignment_0 : decode b_M_isAssignment 0 = .ok (.aload_n 0, 1) := by decide +kernel
theorem d_M_isAssignment_1 : decode b_M_isAssignment 1 = .ok (.iconst 4, 1) := by decide +kernel
theorem d_M_isAssignment_2 : decode b_M_isAssignment 2 = .ok (.iconst 3, 1) := by decide +kernel
theorem d_M_isAssignment_3 : decode b_M_isAssignment 3 = .ok (.invokevirtual 247, 3) := by decide +kernel
theorem d_M_isAssignment_6 : decode b_M_isAssignment 6 = .ok (.ifCond .eq 35, 3) := by decide +kernel
theorem d_M_isAssignment_9 : decode b_M_isAssignment 9 = .ok (.aload_n 0, 1) := by decide +kernel
theorem d_M_isAssignment_10 : decode b_M_isAssignment 10 = .ok (.bipush 61, 2) := by decide +kernel
theorem d_M_isAssignment_12 : decode b_M_isAssignment 12 = .ok (.invokevirtual 226, 3) := by decide +kernel
theorem d_M_isAssignment_15 : decode b_M_isAssignment 15 = .ok (.ifCond .eq 26, 3) := by decide +kernel
theorem d_M_isAssignment_18 : decode b_M_isAssignment 18 = .ok (.aload_n 0, 1) := by decide +kernel
theorem d_M_isAssignment_19 : decode b_M_isAssignment 19 = .ok (.iconst 0, 1) := by decide +kernel
theorem d_M_isAssignment_20 : decode b_M_isAssignment 20 = .ok (.invokevirtual 219, 3) := by decide +kernel
theorem d_M_isAssignment_23 : decode b_M_isAssignment 23 = .ok (.ifCond .eq 18, 3) := by decide +kernel
theorem d_M_isAssignment_26 : decode b_M_isAssignment 26 = .ok (.aload_n 0, 1) := by decide +kernel
theorem d_M_isAssignment_27 : decode b_M_isAssignment 27 = .ok (.getfield 126, 3) := by decide +kernel
theorem d_M_isAssignment_30 : decode b_M_isAssignment 30 = .ok (.aload_n 0, 1) := by decide +kernel
theorem d_M_isAssignment_31 : decode b_M_isAssignment 31 = .ok (.getfield 116, 3) := by decide +kernel
theorem d_M_isAssignment_34 : decode b_M_isAssignment 34 = .ok (.if_icmp .ne 7, 3) := by decide +kernel
theorem d_M_isAssignment_37 : decode b_M_isAssignment 37 = .ok (.iconst 1, 1) := by decide +kernel
theorem d_M_isAssignment_38 : decode b_M_isAssignment 38 = .ok (.goto 4, 3) := by decide +kernel
theorem d_M_isAssignment_41 : decode b_M_isAssignment 41 = .ok (.iconst 0, 1) := by decide +kernel
theorem d_M_isAssignment_42 : decode b_M_isAssignment 42 = .ok (.ireturn, 1) := by decide +kernel
abbrev y_M_isGoTo : MethodName := ⟨"DeckFrontModel", "isGoTo", "()Z"⟩
abbrev b_M_isGoTo : ByteArray := prog_8_method_42_code
abbrev w_M_isGoTo : List Cond := (Jvm.Cond.code ({ cls := "DeckFrontModel", name := "isGoTo", desc := "()Z" } : Jvm.MethodName) prog_8_method_42_code (1 : Nat) (Option.some Jvm.ClassFile.FieldType.boolean)) :: wG
theorem d_M_isGoTo_0 : decode b_M_isGoTo 0 = .ok (.aload_n 0, 1) := by decide +kernel
theorem d_M_isGoTo_1 : decode b_M_isGoTo 1 = .ok (.ldc2_w 250, 3) := by decide +kernel
theorem d_M_isGoTo_4 : decode b_M_isGoTo 4 = .ok (.invokevirtual 234, 3) := by decide +kernel
theorem d_M_isGoTo_7 : decode b_M_isGoTo 7 = .ok (.ifCond .ne 5, 3) := by decide +kernel
theorem d_M_isGoTo_10 : decode b_M_isGoTo 10 = .ok (.iconst 0, 1) := by decide +kernel
theorem d_M_isGoTo_11 : decode b_M_isGoTo 11 = .ok (.ireturn, 1) := by decide +kernel
theorem d_M_isGoTo_12 : decode b_M_isGoTo 12 = .ok (.aload_n 0, 1) := by decide +kernel
theorem d_M_isGoTo_13 : decode b_M_isGoTo 13 = .ok (.getfield 36, 3) := by decide +kernel
theorem d_M_isGoTo_16 : decode b_M_isGoTo 16 = .ok (.iconst 0, 1) := by decide +kernel
theorem d_M_isGoTo_17 : decode b_M_isGoTo 17 = .ok (.aload_n 0, 1) := by decide +kernel
theorem d_M_isGoTo_18 : decode b_M_isGoTo 18 = .ok (.iconst 5, 1) := by decide +kernel
theorem d_M_isGoTo_19 : decode b_M_isGoTo 19 = .ok (.invokevirtual 238, 3) := by decide +kernel
theorem d_M_isGoTo_22 : decode b_M_isGoTo 22 = .ok (.iastore, 1) := by decide +kernel
theorem d_M_isGoTo_23 : decode b_M_isGoTo 23 = .ok (.aload_n 0, 1) := by decide +kernel
theorem d_M_isGoTo_24 : decode b_M_isGoTo 24 = .ok (.iconst 1, 1) := by decide +kernel
theorem d_M_isGoTo_25 : decode b_M_isGoTo 25 = .ok (.putfield 244, 3) := by decide +kernel
theorem d_M_isGoTo_28 : decode b_M_isGoTo 28 = .ok (.aload_n 0, 1) := by decide +kernel
theorem d_M_isGoTo_29 : decode b_M_isGoTo 29 = .ok (.getfield 36, 3) := by decide +kernel
theorem d_M_isGoTo_32 : decode b_M_isGoTo 32 = .ok (.iconst 0, 1) := by decide +kernel
theorem d_M_isGoTo_33 : decode b_M_isGoTo 33 = .ok (.iaload, 1) := by decide +kernel
theorem d_M_isGoTo_34 : decode b_M_isGoTo 34 = .ok (.ifCond .lt 18, 3) := by decide +kernel
theorem d_M_isGoTo_37 : decode b_M_isGoTo 37 = .ok (.aload_n 0, 1) := by decide +kernel
theorem d_M_isGoTo_38 : decode b_M_isGoTo 38 = .ok (.getfield 126, 3) := by decide +kernel
theorem d_M_isGoTo_41 : decode b_M_isGoTo 41 = .ok (.aload_n 0, 1) := by decide +kernel
theorem d_M_isGoTo_42 : decode b_M_isGoTo 42 = .ok (.getfield 116, 3) := by decide +kernel
theorem d_M_isGoTo_45 : decode b_M_isGoTo 45 = .ok (.if_icmp .ne 7, 3) := by decide +kernel
theorem d_M_isGoTo_48 : decode b_M_isGoTo 48 = .ok (.iconst 1, 1) := by decide +kernel
theorem d_M_isGoTo_49 : decode b_M_isGoTo 49 = .ok (.goto 4, 3) := by decide +kernel
theorem d_M_isGoTo_52 : decode b_M_isGoTo 52 = .ok (.iconst 0, 1) := by decide +kernel
theorem d_M_isGoTo_53 : decode b_M_isGoTo 53 = .ok (.ireturn, 1) := by decide +kernel
abbrev y_M_isComputed : MethodName := ⟨"DeckFrontModel", "isComputed", "()Z"⟩
abbrev b_M_isComputed : ByteArray := prog_8_method_43_code
abbrev w_M_isComputed : List Cond := (Jvm.Cond.code ({ cls := "DeckFrontModel", name := "isComputed", desc := "()Z" } : Jvm.MethodName) prog_8_method_43_code (3 : Nat) (Option.some Jvm.ClassFile.FieldType.boolean)) :: wG
theorem d_M_isComputed_0 : decode b_M_isComputed 0 = .ok (.aload_n 0, 1) := by decide +kernel
theorem d_M_isComputed_1 : decode b_M_isComputed 1 = .ok (.ldc2_w 250, 3) := by decide +kernel
theorem d_M_isComputed_4 : decode b_M_isComputed 4 = .ok (.invokevirtual 234, 3) := by decide +kernel
theorem d_M_isComputed_7 : decode b_M_isComputed 7 = .ok (.ifCond .eq 12, 3) := by decide +kernel
theorem d_M_isComputed_10 : decode b_M_isComputed 10 = .ok (.aload_n 0, 1) := by decide +kernel
theorem d_M_isComputed_11 : decode b_M_isComputed 11 = .ok (.bipush 40, 2) := by decide +kernel
theorem d_M_isComputed_13 : decode b_M_isComputed 13 = .ok (.invokevirtual 226, 3) := by decide +kernel
theorem d_M_isComputed_16 : decode b_M_isComputed 16 = .ok (.ifCond .ne 5, 3) := by decide +kernel
theorem d_M_isComputed_19 : decode b_M_isComputed 19 = .ok (.iconst 0, 1) := by decide +kernel
theorem d_M_isComputed_20 : decode b_M_isComputed 20 = .ok (.ireturn, 1) := by decide +kernel
theorem d_M_isComputed_21 : decode b_M_isComputed 21 = .ok (.iconst 1, 1) := by decide +kernel
theorem d_M_isComputed_22 : decode b_M_isComputed 22 = .ok (.istore_n 1, 1) := by decide +kernel
theorem d_M_isComputed_23 : decode b_M_isComputed 23 = .ok (.iconst 1, 1) := by decide +kernel
theorem d_M_isComputed_24 : decode b_M_isComputed 24 = .ok (.istore_n 2, 1) := by decide +kernel
theorem d_M_isComputed_25 : decode b_M_isComputed 25 = .ok (.iload_n 1, 1) := by decide +kernel
theorem d_M_isComputed_26 : decode b_M_isComputed 26 = .ok (.ifCond .eq 71, 3) := by decide +kernel
theorem d_M_isComputed_29 : decode b_M_isComputed 29 = .ok (.iload_n 2, 1) := by decide +kernel
theorem d_M_isComputed_30 : decode b_M_isComputed 30 = .ok (.ifCond .eq 67, 3) := by decide +kernel
theorem d_M_isComputed_33 : decode b_M_isComputed 33 = .ok (.aload_n 0, 1) := by decide +kernel
theorem d_M_isComputed_34 : decode b_M_isComputed 34 = .ok (.getfield 36, 3) := by decide +kernel
theorem d_M_isComputed_37 : decode b_M_isComputed 37 = .ok (.aload_n 0, 1) := by decide +kernel
theorem d_M_isComputed_38 : decode b_M_isComputed 38 = .ok (.getfield 244, 3) := by decide +kernel
theorem d_M_isComputed_41 : decode b_M_isComputed 41 = .ok (.aload_n 0, 1) := by decide +kernel
theorem d_M_isComputed_42 : decode b_M_isComputed 42 = .ok (.iconst 5, 1) := by decide +kernel
theorem d_M_isComputed_43 : decode b_M_isComputed 43 = .ok (.invokevirtual 238, 3) := by decide +kernel
theorem d_M_isComputed_46 : decode b_M_isComputed 46 = .ok (.iastore, 1) := by decide +kernel
theorem d_M_isComputed_47 : decode b_M_isComputed 47 = .ok (.aload_n 0, 1) := by decide +kernel
theorem d_M_isComputed_48 : decode b_M_isComputed 48 = .ok (.getfield 36, 3) := by decide +kernel
theorem d_M_isComputed_51 : decode b_M_isComputed 51 = .ok (.aload_n 0, 1) := by decide +kernel
theorem d_M_isComputed_52 : decode b_M_isComputed 52 = .ok (.getfield 244, 3) := by decide +kernel
theorem d_M_isComputed_55 : decode b_M_isComputed 55 = .ok (.iaload, 1) := by decide +kernel
theorem d_M_isComputed_56 : decode b_M_isComputed 56 = .ok (.ifCond .lt 7, 3) := by decide +kernel
theorem d_M_isComputed_59 : decode b_M_isComputed 59 = .ok (.iconst 1, 1) := by decide +kernel
theorem d_M_isComputed_60 : decode b_M_isComputed 60 = .ok (.goto 4, 3) := by decide +kernel
theorem d_M_isComputed_63 : decode b_M_isComputed 63 = .ok (.iconst 0, 1) := by decide +kernel
theorem d_M_isComputed_64 : decode b_M_isComputed 64 = .ok (.istore_n 1, 1) := by decide +kernel
theorem d_M_isComputed_65 : decode b_M_isComputed 65 = .ok (.aload_n 0, 1) := by decide +kernel
theorem d_M_isComputed_66 : decode b_M_isComputed 66 = .ok (.dup, 1) := by decide +kernel
theorem d_M_isComputed_67 : decode b_M_isComputed 67 = .ok (.getfield 244, 3) := by decide +kernel
theorem d_M_isComputed_70 : decode b_M_isComputed 70 = .ok (.iconst 1, 1) := by decide +kernel
theorem d_M_isComputed_71 : decode b_M_isComputed 71 = .ok (.iadd, 1) := by decide +kernel
theorem d_M_isComputed_72 : decode b_M_isComputed 72 = .ok (.putfield 244, 3) := by decide +kernel
theorem d_M_isComputed_75 : decode b_M_isComputed 75 = .ok (.iload_n 1, 1) := by decide +kernel
theorem d_M_isComputed_76 : decode b_M_isComputed 76 = .ok (.ifCond .eq 16, 3) := by decide +kernel
theorem d_M_isComputed_79 : decode b_M_isComputed 79 = .ok (.aload_n 0, 1) := by decide +kernel
theorem d_M_isComputed_80 : decode b_M_isComputed 80 = .ok (.bipush 44, 2) := by decide +kernel
theorem d_M_isComputed_82 : decode b_M_isComputed 82 = .ok (.invokevirtual 226, 3) := by decide +kernel
theorem d_M_isComputed_85 : decode b_M_isComputed 85 = .ok (.ifCond .eq 7, 3) := by decide +kernel
theorem d_M_isComputed_88 : decode b_M_isComputed 88 = .ok (.iconst 1, 1) := by decide +kernel
theorem d_M_isComputed_89 : decode b_M_isComputed 89 = .ok (.goto 4, 3) := by decide +kernel
theorem d_M_isComputed_92 : decode b_M_isComputed 92 = .ok (.iconst 0, 1) := by decide +kernel
theorem d_M_isComputed_93 : decode b_M_isComputed 93 = .ok (.istore_n 2, 1) := by decide +kernel
theorem d_M_isComputed_94 : decode b_M_isComputed 94 = .ok (.goto (-69), 3) := by decide +kernel
theorem d_M_isComputed_97 : decode b_M_isComputed 97 = .ok (.iload_n 1, 1) := by decide +kernel
theorem d_M_isComputed_98 : decode b_M_isComputed 98 = .ok (.ifCond .eq 12, 3) := by decide +kernel
theorem d_M_isComputed_101 : decode b_M_isComputed 101 = .ok (.aload_n 0, 1) := by decide +kernel
theorem d_M_isComputed_102 : decode b_M_isComputed 102 = .ok (.bipush 41, 2) := by decide +kernel
theorem d_M_isComputed_104 : decode b_M_isComputed 104 = .ok (.invokevirtual 226, 3) := by decide +kernel
theorem d_M_isComputed_107 : decode b_M_isComputed 107 = .ok (.ifCond .ne 5, 3) := by decide +kernel
theorem d_M_isComputed_110 : decode b_M_isComputed 110 = .ok (.iconst 0, 1) := by decide +kernel
theorem d_M_isComputed_111 : decode b_M_isComputed 111 = .ok (.ireturn, 1) := by decide +kernel
theorem d_M_isComputed_112 : decode b_M_isComputed 112 = .ok (.aload_n 0, 1) := by decide +kernel
theorem d_M_isComputed_113 : decode b_M_isComputed 113 = .ok (.invokevirtual 241, 3) := by decide +kernel
theorem d_M_isComputed_116 : decode b_M_isComputed 116 = .ok (.aload_n 0, 1) := by decide +kernel
theorem d_M_isComputed_117 : decode b_M_isComputed 117 = .ok (.iconst 0, 1) := by decide +kernel
theorem d_M_isComputed_118 : decode b_M_isComputed 118 = .ok (.invokevirtual 219, 3) := by decide +kernel
theorem d_M_isComputed_121 : decode b_M_isComputed 121 = .ok (.ifCond .eq 18, 3) := by decide +kernel
theorem d_M_isComputed_124 : decode b_M_isComputed 124 = .ok (.aload_n 0, 1) := by decide +kernel
theorem d_M_isComputed_125 : decode b_M_isComputed 125 = .ok (.getfield 126, 3) := by decide +kernel
theorem d_M_isComputed_128 : decode b_M_isComputed 128 = .ok (.aload_n 0, 1) := by decide +kernel
theorem d_M_isComputed_129 : decode b_M_isComputed 129 = .ok (.getfield 116, 3) := by decide +kernel
theorem d_M_isComputed_132 : decode b_M_isComputed 132 = .ok (.if_icmp .ne 7, 3) := by decide +kernel
theorem d_M_isComputed_135 : decode b_M_isComputed 135 = .ok (.iconst 1, 1) := by decide +kernel
theorem d_M_isComputed_136 : decode b_M_isComputed 136 = .ok (.goto 4, 3) := by decide +kernel
theorem d_M_isComputed_139 : decode b_M_isComputed 139 = .ok (.iconst 0, 1) := by decide +kernel
theorem d_M_isComputed_140 : decode b_M_isComputed 140 = .ok (.ireturn, 1) := by decide +kernel
abbrev y_M_isCall : MethodName := ⟨"DeckFrontModel", "isCall", "()Z"⟩
abbrev b_M_isCall : ByteArray := prog_8_method_44_code
abbrev w_M_isCall : List Cond := (Jvm.Cond.code ({ cls := "DeckFrontModel", name := "isCall", desc := "()Z" } : Jvm.MethodName) prog_8_method_44_code (1 : Nat) (Option.some Jvm.ClassFile.FieldType.boolean)) :: wG
theorem d_M_isCall_0 : decode b_M_isCall 0 = .ok (.aload_n 0, 1) := by decide +kernel
theorem d_M_isCall_1 : decode b_M_isCall 1 = .ok (.ldc2_w 252, 3) := by decide +kernel
theorem d_M_isCall_4 : decode b_M_isCall 4 = .ok (.invokevirtual 234, 3) := by decide +kernel
theorem d_M_isCall_7 : decode b_M_isCall 7 = .ok (.ifCond .eq 27, 3) := by decide +kernel
theorem d_M_isCall_10 : decode b_M_isCall 10 = .ok (.aload_n 0, 1) := by decide +kernel
theorem d_M_isCall_11 : decode b_M_isCall 11 = .ok (.iconst 2, 1) := by decide +kernel
theorem d_M_isCall_12 : decode b_M_isCall 12 = .ok (.iconst 2, 1) := by decide +kernel
theorem d_M_isCall_13 : decode b_M_isCall 13 = .ok (.invokevirtual 247, 3) := by decide +kernel
theorem d_M_isCall_16 : decode b_M_isCall 16 = .ok (.ifCond .eq 18, 3) := by decide +kernel
theorem d_M_isCall_19 : decode b_M_isCall 19 = .ok (.aload_n 0, 1) := by decide +kernel
theorem d_M_isCall_20 : decode b_M_isCall 20 = .ok (.getfield 126, 3) := by decide +kernel
theorem d_M_isCall_23 : decode b_M_isCall 23 = .ok (.aload_n 0, 1) := by decide +kernel
theorem d_M_isCall_24 : decode b_M_isCall 24 = .ok (.getfield 116, 3) := by decide +kernel
theorem d_M_isCall_27 : decode b_M_isCall 27 = .ok (.if_icmp .ne 7, 3) := by decide +kernel
theorem d_M_isCall_30 : decode b_M_isCall 30 = .ok (.iconst 1, 1) := by decide +kernel
theorem d_M_isCall_31 : decode b_M_isCall 31 = .ok (.goto 4, 3) := by decide +kernel
theorem d_M_isCall_34 : decode b_M_isCall 34 = .ok (.iconst 0, 1) := by decide +kernel
theorem d_M_isCall_35 : decode b_M_isCall 35 = .ok (.ireturn, 1) := by decide +kernel
abbrev y_M_isType : MethodName := ⟨"DeckFrontModel", "isType", "()Z"⟩
abbrev b_M_isType : ByteArray := prog_8_method_45_code
abbrev w_M_isType : List Cond := (Jvm.Cond.code ({ cls := "DeckFrontModel", name := "isType", desc := "()Z" } : Jvm.MethodName) prog_8_method_45_code (3 : Nat) (Option.some Jvm.ClassFile.FieldType.boolean)) :: wG
theorem d_M_isType_0 : decode b_M_isType 0 = .ok (.aload_n 0, 1) := by decide +kernel
theorem d_M_isType_1 : decode b_M_isType 1 = .ok (.ldc2_w 254, 3) := by decide +kernel
theorem d_M_isType_4 : decode b_M_isType 4 = .ok (.invokevirtual 234, 3) := by decide +kernel
theorem d_M_isType_7 : decode b_M_isType 7 = .ok (.ifCond .eq 7, 3) := by decide +kernel
theorem d_M_isType_10 : decode b_M_isType 10 = .ok (.iconst 1, 1) := by decide +kernel
theorem d_M_isType_11 : decode b_M_isType 11 = .ok (.goto 32, 3) := by decide +kernel
theorem d_M_isType_14 : decode b_M_isType 14 = .ok (.aload_n 0, 1) := by decide +kernel
theorem d_M_isType_15 : decode b_M_isType 15 = .ok (.ldc2_w 256, 3) := by decide +kernel
theorem d_M_isType_18 : decode b_M_isType 18 = .ok (.invokevirtual 234, 3) := by decide +kernel
theorem d_M_isType_21 : decode b_M_isType 21 = .ok (.ifCond .eq 7, 3) := by decide +kernel
theorem d_M_isType_24 : decode b_M_isType 24 = .ok (.iconst 2, 1) := by decide +kernel
theorem d_M_isType_25 : decode b_M_isType 25 = .ok (.goto 18, 3) := by decide +kernel
theorem d_M_isType_28 : decode b_M_isType 28 = .ok (.aload_n 0, 1) := by decide +kernel
theorem d_M_isType_29 : decode b_M_isType 29 = .ok (.ldc2_w 258, 3) := by decide +kernel
theorem d_M_isType_32 : decode b_M_isType 32 = .ok (.invokevirtual 234, 3) := by decide +kernel
theorem d_M_isType_35 : decode b_M_isType 35 = .ok (.ifCond .eq 7, 3) := by decide +kernel
theorem d_M_isType_38 : decode b_M_isType 38 = .ok (.iconst 3, 1) := by decide +kernel
theorem d_M_isType_39 : decode b_M_isType 39 = .ok (.goto 4, 3) := by decide +kernel
theorem d_M_isType_42 : decode b_M_isType 42 = .ok (.iconst 0, 1) := by decide +kernel
theorem d_M_isType_43 : decode b_M_isType 43 = .ok (.istore_n 1, 1) := by decide +kernel
theorem d_M_isType_44 : decode b_M_isType 44 = .ok (.iload_n 1, 1) := by decide +kernel
theorem d_M_isType_45 : decode b_M_isType 45 = .ok (.ifCond .le 16, 3) := by decide +kernel
theorem d_M_isType_48 : decode b_M_isType 48 = .ok (.aload_n 0, 1) := by decide +kernel
theorem d_M_isType_49 : decode b_M_isType 49 = .ok (.iconst 4, 1) := by decide +kernel
theorem d_M_isType_50 : decode b_M_isType 50 = .ok (.iload_n 1, 1) := by decide +kernel
theorem d_M_isType_51 : decode b_M_isType 51 = .ok (.invokevirtual 222, 3) := by decide +kernel
theorem d_M_isType_54 : decode b_M_isType 54 = .ok (.ifCond .eq 7, 3) := by decide +kernel
theorem d_M_isType_57 : decode b_M_isType 57 = .ok (.iconst 1, 1) := by decide +kernel
theorem d_M_isType_58 : decode b_M_isType 58 = .ok (.goto 4, 3) := by decide +kernel
theorem d_M_isType_61 : decode b_M_isType 61 = .ok (.iconst 0, 1) := by decide +kernel
theorem d_M_isType_62 : decode b_M_isType 62 = .ok (.istore_n 2, 1) := by decide +kernel
theorem d_M_isType_63 : decode b_M_isType 63 = .ok (.iload_n 2, 1) := by decide +kernel
theorem d_M_isType_64 : decode b_M_isType 64 = .ok (.ifCond .eq 22, 3) := by decide +kernel
theorem d_M_isType_67 : decode b_M_isType 67 = .ok (.aload_n 0, 1) := by decide +kernel
theorem d_M_isType_68 : decode b_M_isType 68 = .ok (.bipush 44, 2) := by decide +kernel
theorem d_M_isType_70 : decode b_M_isType 70 = .ok (.invokevirtual 226, 3) := by decide +kernel
theorem d_M_isType_73 : decode b_M_isType 73 = .ok (.ifCond .eq 13, 3) := by decide +kernel
theorem d_M_isType_76 : decode b_M_isType 76 = .ok (.aload_n 0, 1) := by decide +kernel
theorem d_M_isType_77 : decode b_M_isType 77 = .ok (.iconst 4, 1) := by decide +kernel
theorem d_M_isType_78 : decode b_M_isType 78 = .ok (.iload_n 1, 1) := by decide +kernel
theorem d_M_isType_79 : decode b_M_isType 79 = .ok (.invokevirtual 222, 3) := by decide +kernel
theorem d_M_isType_82 : decode b_M_isType 82 = .ok (.istore_n 2, 1) := by decide +kernel
theorem d_M_isType_83 : decode b_M_isType 83 = .ok (.goto (-20), 3) := by decide +kernel
theorem d_M_isType_86 : decode b_M_isType 86 = .ok (.iload_n 2, 1) := by decide +kernel
theorem d_M_isType_87 : decode b_M_isType 87 = .ok (.ifCond .eq 18, 3) := by decide +kernel
theorem d_M_isType_90 : decode b_M_isType 90 = .ok (.aload_n 0, 1) := by decide +kernel
theorem d_M_isType_91 : decode b_M_isType 91 = .ok (.getfield 126, 3) := by decide +kernel
theorem d_M_isType_94 : decode b_M_isType 94 = .ok (.aload_n 0, 1) := by decide +kernel
theorem d_M_isType_95 : decode b_M_isType 95 = .ok (.getfield 116, 3) := by decide +kernel
theorem d_M_isType_98 : decode b_M_isType 98 = .ok (.if_icmp .ne 7, 3) := by decide +kernel
theorem d_M_isType_101 : decode b_M_isType 101 = .ok (.iconst 1, 1) := by decide +kernel
theorem d_M_isType_102 : decode b_M_isType 102 = .ok (.goto 4, 3) := by decide +kernel
theorem d_M_isType_105 : decode b_M_isType 105 = .ok (.iconst 0, 1) := by decide +kernel
theorem d_M_isType_106 : decode b_M_isType 106 = .ok (.ireturn, 1) := by decide +kernel
abbrev y_M_isDimension : MethodName := ⟨"DeckFrontModel", "isDimension", "()Z"⟩
abbrev b_M_isDimension : ByteArray := prog_8_method_46_code
abbrev w_M_isDimension : List Cond := (Jvm.Cond.code ({ cls := "DeckFrontModel", name := "isDimension", desc := "()Z" } : Jvm.MethodName) prog_8_method_46_code (3 : Nat) (Option.some Jvm.ClassFile.FieldType.boolean)) :: wG
theorem d_M_isDimension_0 : decode b_M_isDimension 0 = .ok (.aload_n 0, 1) := by decide +kernel
theorem d_M_isDimension_1 : decode b_M_isDimension 1 = .ok (.ldc2_w 260, 3) := by decide +kernel
theorem d_M_isDimension_4 : decode b_M_isDimension 4 = .ok (.invokevirtual 234, 3) := by decide +kernel
theorem d_M_isDimension_7 : decode b_M_isDimension 7 = .ok (.ifCond .eq 16, 3) := by decide +kernel
theorem d_M_isDimension_10 : decode b_M_isDimension 10 = .ok (.aload_n 0, 1) := by decide +kernel
theorem d_M_isDimension_11 : decode b_M_isDimension 11 = .ok (.bipush 78, 2) := by decide +kernel
theorem d_M_isDimension_13 : decode b_M_isDimension 13 = .ok (.invokevirtual 226, 3) := by decide +kernel
theorem d_M_isDimension_16 : decode b_M_isDimension 16 = .ok (.ifCond .eq 7, 3) := by decide +kernel
theorem d_M_isDimension_19 : decode b_M_isDimension 19 = .ok (.iconst 1, 1) := by decide +kernel
theorem d_M_isDimension_20 : decode b_M_isDimension 20 = .ok (.goto 4, 3) := by decide +kernel
theorem d_M_isDimension_23 : decode b_M_isDimension 23 = .ok (.iconst 0, 1) := by decide +kernel
theorem d_M_isDimension_24 : decode b_M_isDimension 24 = .ok (.istore_n 1, 1) := by decide +kernel
theorem d_M_isDimension_25 : decode b_M_isDimension 25 = .ok (.iload_n 1, 1) := by decide +kernel
theorem d_M_isDimension_26 : decode b_M_isDimension 26 = .ok (.istore_n 2, 1) := by decide +kernel
theorem d_M_isDimension_27 : decode b_M_isDimension 27 = .ok (.iload_n 1, 1) := by decide +kernel
theorem d_M_isDimension_28 : decode b_M_isDimension 28 = .ok (.ifCond .eq 70, 3) := by decide +kernel
theorem d_M_isDimension_31 : decode b_M_isDimension 31 = .ok (.iload_n 2, 1) := by decide +kernel
theorem d_M_isDimension_32 : decode b_M_isDimension 32 = .ok (.ifCond .eq 66, 3) := by decide +kernel
theorem d_M_isDimension_35 : decode b_M_isDimension 35 = .ok (.aload_n 0, 1) := by decide +kernel
theorem d_M_isDimension_36 : decode b_M_isDimension 36 = .ok (.iconst 1, 1) := by decide +kernel
theorem d_M_isDimension_37 : decode b_M_isDimension 37 = .ok (.iconst 0, 1) := by decide +kernel
theorem d_M_isDimension_38 : decode b_M_isDimension 38 = .ok (.invokevirtual 222, 3) := by decide +kernel
theorem d_M_isDimension_41 : decode b_M_isDimension 41 = .ok (.ifCond .eq 33, 3) := by decide +kernel
theorem d_M_isDimension_44 : decode b_M_isDimension 44 = .ok (.aload_n 0, 1) := by decide +kernel
theorem d_M_isDimension_45 : decode b_M_isDimension 45 = .ok (.bipush 40, 2) := by decide +kernel
theorem d_M_isDimension_47 : decode b_M_isDimension 47 = .ok (.invokevirtual 226, 3) := by decide +kernel
theorem d_M_isDimension_50 : decode b_M_isDimension 50 = .ok (.ifCond .eq 24, 3) := by decide +kernel
theorem d_M_isDimension_53 : decode b_M_isDimension 53 = .ok (.aload_n 0, 1) := by decide +kernel
theorem d_M_isDimension_54 : decode b_M_isDimension 54 = .ok (.iconst 3, 1) := by decide +kernel
theorem d_M_isDimension_55 : decode b_M_isDimension 55 = .ok (.invokevirtual 238, 3) := by decide +kernel
theorem d_M_isDimension_58 : decode b_M_isDimension 58 = .ok (.ifCond .lt 16, 3) := by decide +kernel
theorem d_M_isDimension_61 : decode b_M_isDimension 61 = .ok (.aload_n 0, 1) := by decide +kernel
theorem d_M_isDimension_62 : decode b_M_isDimension 62 = .ok (.bipush 41, 2) := by decide +kernel
theorem d_M_isDimension_64 : decode b_M_isDimension 64 = .ok (.invokevirtual 226, 3) := by decide +kernel
theorem d_M_isDimension_67 : decode b_M_isDimension 67 = .ok (.ifCond .eq 7, 3) := by decide +kernel
theorem d_M_isDimension_70 : decode b_M_isDimension 70 = .ok (.iconst 1, 1) := by decide +kernel
theorem d_M_isDimension_71 : decode b_M_isDimension 71 = .ok (.goto 4, 3) := by decide +kernel
theorem d_M_isDimension_74 : decode b_M_isDimension 74 = .ok (.iconst 0, 1) := by decide +kernel
theorem d_M_isDimension_75 : decode b_M_isDimension 75 = .ok (.istore_n 1, 1) := by decide +kernel
theorem d_M_isDimension_76 : decode b_M_isDimension 76 = .ok (.iload_n 1, 1) := by decide +kernel
theorem d_M_isDimension_77 : decode b_M_isDimension 77 = .ok (.ifCond .eq 16, 3) := by decide +kernel
theorem d_M_isDimension_80 : decode b_M_isDimension 80 = .ok (.aload_n 0, 1) := by decide +kernel
theorem d_M_isDimension_81 : decode b_M_isDimension 81 = .ok (.bipush 44, 2) := by decide +kernel
theorem d_M_isDimension_83 : decode b_M_isDimension 83 = .ok (.invokevirtual 226, 3) := by decide +kernel
theorem d_M_isDimension_86 : decode b_M_isDimension 86 = .ok (.ifCond .eq 7, 3) := by decide +kernel
theorem d_M_isDimension_89 : decode b_M_isDimension 89 = .ok (.iconst 1, 1) := by decide +kernel
theorem d_M_isDimension_90 : decode b_M_isDimension 90 = .ok (.goto 4, 3) := by decide +kernel
theorem d_M_isDimension_93 : decode b_M_isDimension 93 = .ok (.iconst 0, 1) := by decide +kernel
theorem d_M_isDimension_94 : decode b_M_isDimension 94 = .ok (.istore_n 2, 1) := by decide +kernel
theorem d_M_isDimension_95 : decode b_M_isDimension 95 = .ok (.goto (-68), 3) := by decide +kernel
theorem d_M_isDimension_98 : decode b_M_isDimension 98 = .ok (.iload_n 1, 1) := by decide +kernel
theorem d_M_isDimension_99 : decode b_M_isDimension 99 = .ok (.ifCond .eq 18, 3) := by decide +kernel
theorem d_M_isDimension_102 : decode b_M_isDimension 102 = .ok (.aload_n 0, 1) := by decide +kernel
theorem d_M_isDimension_103 : decode b_M_isDimension 103 = .ok (.getfield 126, 3) := by decide +kernel
theorem d_M_isDimension_106 : decode b_M_isDimension 106 = .ok (.aload_n 0, 1) := by decide +kernel
theorem d_M_isDimension_107 : decode b_M_isDimension 107 = .ok (.getfield 116, 3) := by decide +kernel
theorem d_M_isDimension_110 : decode b_M_isDimension 110 = .ok (.if_icmp .ne 7, 3) := by decide +kernel
theorem d_M_isDimension_113 : decode b_M_isDimension 113 = .ok (.iconst 1, 1) := by decide +kernel
theorem d_M_isDimension_114 : decode b_M_isDimension 114 = .ok (.goto 4, 3) := by decide +kernel
theorem d_M_isDimension_117 : decode b_M_isDimension 117 = .ok (.iconst 0, 1) := by decide +kernel
theorem d_M_isDimension_118 : decode b_M_isDimension 118 = .ok (.ireturn, 1) := by decide +kernel
abbrev y_M_alone : MethodName := ⟨"DeckFrontModel", "alone", "(JI)Z"⟩
abbrev b_M_alone : ByteArray := prog_8_method_47_code
abbrev w_M_alone : List Cond := (Jvm.Cond.code ({ cls := "DeckFrontModel", name := "alone", desc := "(JI)Z" } : Jvm.MethodName) prog_8_method_47_code (4 : Nat) (Option.some Jvm.ClassFile.FieldType.boolean)) :: wG
theorem d_M_alone_0 : decode b_M_alone 0 = .ok (.aload_n 0, 1) := by decide +kernel
theorem d_M_alone_1 : decode b_M_alone 1 = .ok (.lload_n 1, 1) := by decide +kernel
theorem d_M_alone_2 : decode b_M_alone 2 = .ok (.invokevirtual 234, 3) := by decide +kernel
theorem d_M_alone_5 : decode b_M_alone 5 = .ok (.ifCond .eq 30, 3) := by decide +kernel
theorem d_M_alone_8 : decode b_M_alone 8 = .ok (.iload_n 3, 1) := by decide +kernel
theorem d_M_alone_9 : decode b_M_alone 9 = .ok (.ifCond .eq 11, 3) := by decide +kernel
theorem d_M_alone_12 : decode b_M_alone 12 = .ok (.aload_n 0, 1) := by decide +kernel
theorem d_M_alone_13 : decode b_M_alone 13 = .ok (.iload_n 3, 1) := by decide +kernel
theorem d_M_alone_14 : decode b_M_alone 14 = .ok (.invokevirtual 226, 3) := by decide +kernel
theorem d_M_alone_17 : decode b_M_alone 17 = .ok (.ifCond .eq 18, 3) := by decide +kernel
theorem d_M_alone_20 : decode b_M_alone 20 = .ok (.aload_n 0, 1) := by decide +kernel
theorem d_M_alone_21 : decode b_M_alone 21 = .ok (.getfield 126, 3) := by decide +kernel
theorem d_M_alone_24 : decode b_M_alone 24 = .ok (.aload_n 0, 1) := by decide +kernel
theorem d_M_alone_25 : decode b_M_alone 25 = .ok (.getfield 116, 3) := by decide +kernel
theorem d_M_alone_28 : decode b_M_alone 28 = .ok (.if_icmp .ne 7, 3) := by decide +kernel
theorem d_M_alone_31 : decode b_M_alone 31 = .ok (.iconst 1, 1) := by decide +kernel
theorem d_M_alone_32 : decode b_M_alone 32 = .ok (.goto 4, 3) := by decide +kernel
theorem d_M_alone_35 : decode b_M_alone 35 = .ok (.iconst 0, 1) := by decide +kernel
theorem d_M_alone_36 : decode b_M_alone 36 = .ok (.ireturn, 1) := by decide +kernel
abbrev y_M_isThen : MethodName := ⟨"DeckFrontModel", "isThen", "(J)Z"⟩
abbrev b_M_isThen : ByteArray := prog_8_method_48_code
abbrev w_M_isThen : List Cond := (Jvm.Cond.code ({ cls := "DeckFrontModel", name := "isThen", desc := "(J)Z" } : Jvm.MethodName) prog_8_method_48_code (3 : Nat) (Option.some Jvm.ClassFile.FieldType.boolean)) :: wG
theorem d_M_isThen_0 : decode b_M_isThen 0 = .ok (.aload_n 0, 1) := by decide +kernel
theorem d_M_isThen_1 : decode b_M_isThen 1 = .ok (.lload_n 1, 1) := by decide +kernel
theorem d_M_isThen_2 : decode b_M_isThen 2 = .ok (.invokevirtual 234, 3) := by decide +kernel
theorem d_M_isThen_5 : decode b_M_isThen 5 = .ok (.ifCond .eq 36, 3) := by decide +kernel
theorem d_M_isThen_8 : decode b_M_isThen 8 = .ok (.aload_n 0, 1) := by decide +kernel
theorem d_M_isThen_9 : decode b_M_isThen 9 = .ok (.iconst 1, 1) := by decide +kernel
theorem d_M_isThen_10 : decode b_M_isThen 10 = .ok (.invokevirtual 219, 3) := by decide +kernel
theorem d_M_isThen_13 : decode b_M_isThen 13 = .ok (.ifCond .eq 28, 3) := by decide +kernel
theorem d_M_isThen_16 : decode b_M_isThen 16 = .ok (.aload_n 0, 1) := by decide +kernel
theorem d_M_isThen_17 : decode b_M_isThen 17 = .ok (.ldc2_w 262, 3) := by decide +kernel
theorem d_M_isThen_20 : decode b_M_isThen 20 = .ok (.invokevirtual 234, 3) := by decide +kernel
theorem d_M_isThen_23 : decode b_M_isThen 23 = .ok (.ifCond .eq 18, 3) := by decide +kernel
theorem d_M_isThen_26 : decode b_M_isThen 26 = .ok (.aload_n 0, 1) := by decide +kernel
theorem d_M_isThen_27 : decode b_M_isThen 27 = .ok (.getfield 126, 3) := by decide +kernel
theorem d_M_isThen_30 : decode b_M_isThen 30 = .ok (.aload_n 0, 1) := by decide +kernel
theorem d_M_isThen_31 : decode b_M_isThen 31 = .ok (.getfield 116, 3) := by decide +kernel
theorem d_M_isThen_34 : decode b_M_isThen 34 = .ok (.if_icmp .ne 7, 3) := by decide +kernel
theorem d_M_isThen_37 : decode b_M_isThen 37 = .ok (.iconst 1, 1) := by decide +kernel
theorem d_M_isThen_38 : decode b_M_isThen 38 = .ok (.goto 4, 3) := by decide +kernel
theorem d_M_isThen_41 : decode b_M_isThen 41 = .ok (.iconst 0, 1) := by decide +kernel
theorem d_M_isThen_42 : decode b_M_isThen 42 = .ok (.ireturn, 1) := by decide +kernel

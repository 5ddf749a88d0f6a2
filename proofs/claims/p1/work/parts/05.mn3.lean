abbrev y_M_wanted : MethodName := ⟨"DeckFrontModel", "wanted", "(II)I"⟩
abbrev b_M_wanted : ByteArray := prog_8_method_33_code
abbrev w_M_wanted : List Cond := (Jvm.Cond.code ({ cls := "DeckFrontModel", name := "wanted", desc := "(II)I" } : Jvm.MethodName) prog_8_method_33_code (9 : Nat) (Option.some Jvm.ClassFile.FieldType.int)) :: wG
theorem d_M_wanted_0 : decode b_M_wanted 0 = .ok (.aload_n 0, 1) := by decide +kernel
theorem d_M_wanted_1 : decode b_M_wanted 1 = .ok (.aload_n 0, 1) := by decide +kernel
theorem d_M_wanted_2 : decode b_M_wanted 2 = .ok (.getfield 126, 3) := by decide +kernel
theorem d_M_wanted_5 : decode b_M_wanted 5 = .ok (.invokevirtual 129, 3) := by decide +kernel
theorem d_M_wanted_8 : decode b_M_wanted 8 = .ok (.istore_n 3, 1) := by decide +kernel
theorem d_M_wanted_9 : decode b_M_wanted 9 = .ok (.aload_n 0, 1) := by decide +kernel
theorem d_M_wanted_10 : decode b_M_wanted 10 = .ok (.aload_n 0, 1) := by decide +kernel
theorem d_M_wanted_11 : decode b_M_wanted 11 = .ok (.getfield 126, 3) := by decide +kernel
theorem d_M_wanted_14 : decode b_M_wanted 14 = .ok (.invokevirtual 189, 3) := by decide +kernel
theorem d_M_wanted_17 : decode b_M_wanted 17 = .ok (.istore 4, 2) := by decide +kernel
theorem d_M_wanted_19 : decode b_M_wanted 19 = .ok (.aload_n 0, 1) := by decide +kernel
theorem d_M_wanted_20 : decode b_M_wanted 20 = .ok (.aload_n 0, 1) := by decide +kernel
theorem d_M_wanted_21 : decode b_M_wanted 21 = .ok (.getfield 126, 3) := by decide +kernel
theorem d_M_wanted_24 : decode b_M_wanted 24 = .ok (.invokevirtual 141, 3) := by decide +kernel
theorem d_M_wanted_27 : decode b_M_wanted 27 = .ok (.istore 5, 2) := by decide +kernel
theorem d_M_wanted_29 : decode b_M_wanted 29 = .ok (.iload 4, 2) := by decide +kernel
theorem d_M_wanted_31 : decode b_M_wanted 31 = .ok (.aload_n 0, 1) := by decide +kernel
theorem d_M_wanted_32 : decode b_M_wanted 32 = .ok (.getfield 126, 3) := by decide +kernel
theorem d_M_wanted_35 : decode b_M_wanted 35 = .ok (.if_icmp .le 28, 3) := by decide +kernel
theorem d_M_wanted_38 : decode b_M_wanted 38 = .ok (.aload_n 0, 1) := by decide +kernel
theorem d_M_wanted_39 : decode b_M_wanted 39 = .ok (.aload_n 0, 1) := by decide +kernel
theorem d_M_wanted_40 : decode b_M_wanted 40 = .ok (.iconst 0, 1) := by decide +kernel
theorem d_M_wanted_41 : decode b_M_wanted 41 = .ok (.aload_n 0, 1) := by decide +kernel
theorem d_M_wanted_42 : decode b_M_wanted 42 = .ok (.getfield 126, 3) := by decide +kernel
theorem d_M_wanted_45 : decode b_M_wanted 45 = .ok (.iload 4, 2) := by decide +kernel
theorem d_M_wanted_47 : decode b_M_wanted 47 = .ok (.iconst (-1), 1) := by decide +kernel
theorem d_M_wanted_48 : decode b_M_wanted 48 = .ok (.iconst (-1), 1) := by decide +kernel
theorem d_M_wanted_49 : decode b_M_wanted 49 = .ok (.invokevirtual 182, 3) := by decide +kernel
theorem d_M_wanted_52 : decode b_M_wanted 52 = .ok (.invokevirtual 186, 3) := by decide +kernel
theorem d_M_wanted_55 : decode b_M_wanted 55 = .ok (.aload_n 0, 1) := by decide +kernel
theorem d_M_wanted_56 : decode b_M_wanted 56 = .ok (.iload 4, 2) := by decide +kernel
theorem d_M_wanted_58 : decode b_M_wanted 58 = .ok (.putfield 126, 3) := by decide +kernel
theorem d_M_wanted_61 : decode b_M_wanted 61 = .ok (.iconst 1, 1) := by decide +kernel
theorem d_M_wanted_62 : decode b_M_wanted 62 = .ok (.ireturn, 1) := by decide +kernel
theorem d_M_wanted_63 : decode b_M_wanted 63 = .ok (.iload 5, 2) := by decide +kernel
theorem d_M_wanted_65 : decode b_M_wanted 65 = .ok (.aload_n 0, 1) := by decide +kernel
theorem d_M_wanted_66 : decode b_M_wanted 66 = .ok (.getfield 126, 3) := by decide +kernel
theorem d_M_wanted_69 : decode b_M_wanted 69 = .ok (.if_icmp .le 135, 3) := by decide +kernel
theorem d_M_wanted_72 : decode b_M_wanted 72 = .ok (.aload_n 0, 1) := by decide +kernel
theorem d_M_wanted_73 : decode b_M_wanted 73 = .ok (.iload 5, 2) := by decide +kernel
theorem d_M_wanted_75 : decode b_M_wanted 75 = .ok (.invokevirtual 129, 3) := by decide +kernel
theorem d_M_wanted_78 : decode b_M_wanted 78 = .ok (.bipush 40, 2) := by decide +kernel
theorem d_M_wanted_80 : decode b_M_wanted 80 = .ok (.if_icmp .ne 7, 3) := by decide +kernel
theorem d_M_wanted_83 : decode b_M_wanted 83 = .ok (.iconst 1, 1) := by decide +kernel
theorem d_M_wanted_84 : decode b_M_wanted 84 = .ok (.goto 4, 3) := by decide +kernel
theorem d_M_wanted_87 : decode b_M_wanted 87 = .ok (.iconst 0, 1) := by decide +kernel
theorem d_M_wanted_88 : decode b_M_wanted 88 = .ok (.istore 6, 2) := by decide +kernel
theorem d_M_wanted_90 : decode b_M_wanted 90 = .ok (.aload_n 0, 1) := by decide +kernel
theorem d_M_wanted_91 : decode b_M_wanted 91 = .ok (.aload_n 0, 1) := by decide +kernel
theorem d_M_wanted_92 : decode b_M_wanted 92 = .ok (.getfield 126, 3) := by decide +kernel
theorem d_M_wanted_95 : decode b_M_wanted 95 = .ok (.iload 5, 2) := by decide +kernel
theorem d_M_wanted_97 : decode b_M_wanted 97 = .ok (.iload 6, 2) := by decide +kernel
theorem d_M_wanted_99 : decode b_M_wanted 99 = .ok (.ifCond .eq 7, 3) := by decide +kernel
theorem d_M_wanted_102 : decode b_M_wanted 102 = .ok (.iconst 3, 1) := by decide +kernel
theorem d_M_wanted_103 : decode b_M_wanted 103 = .ok (.goto 4, 3) := by decide +kernel
theorem d_M_wanted_106 : decode b_M_wanted 106 = .ok (.iconst 4, 1) := by decide +kernel
theorem d_M_wanted_107 : decode b_M_wanted 107 = .ok (.iconst 0, 1) := by decide +kernel
theorem d_M_wanted_108 : decode b_M_wanted 108 = .ok (.invokevirtual 144, 3) := by decide +kernel
theorem d_M_wanted_111 : decode b_M_wanted 111 = .ok (.aload_n 0, 1) := by decide +kernel
theorem d_M_wanted_112 : decode b_M_wanted 112 = .ok (.aload_n 0, 1) := by decide +kernel
theorem d_M_wanted_113 : decode b_M_wanted 113 = .ok (.iload 6, 2) := by decide +kernel
theorem d_M_wanted_115 : decode b_M_wanted 115 = .ok (.ifCond .eq 7, 3) := by decide +kernel
theorem d_M_wanted_118 : decode b_M_wanted 118 = .ok (.iconst 3, 1) := by decide +kernel
theorem d_M_wanted_119 : decode b_M_wanted 119 = .ok (.goto 4, 3) := by decide +kernel
theorem d_M_wanted_122 : decode b_M_wanted 122 = .ok (.iconst 0, 1) := by decide +kernel
theorem d_M_wanted_123 : decode b_M_wanted 123 = .ok (.aload_n 0, 1) := by decide +kernel
theorem d_M_wanted_124 : decode b_M_wanted 124 = .ok (.getfield 126, 3) := by decide +kernel
theorem d_M_wanted_127 : decode b_M_wanted 127 = .ok (.iload 5, 2) := by decide +kernel
theorem d_M_wanted_129 : decode b_M_wanted 129 = .ok (.iconst (-1), 1) := by decide +kernel
theorem d_M_wanted_130 : decode b_M_wanted 130 = .ok (.iconst (-1), 1) := by decide +kernel
theorem d_M_wanted_131 : decode b_M_wanted 131 = .ok (.invokevirtual 182, 3) := by decide +kernel
theorem d_M_wanted_134 : decode b_M_wanted 134 = .ok (.invokevirtual 186, 3) := by decide +kernel
theorem d_M_wanted_137 : decode b_M_wanted 137 = .ok (.aload_n 0, 1) := by decide +kernel
theorem d_M_wanted_138 : decode b_M_wanted 138 = .ok (.iload 5, 2) := by decide +kernel
theorem d_M_wanted_140 : decode b_M_wanted 140 = .ok (.putfield 126, 3) := by decide +kernel
theorem d_M_wanted_143 : decode b_M_wanted 143 = .ok (.iload 6, 2) := by decide +kernel
theorem d_M_wanted_145 : decode b_M_wanted 145 = .ok (.ifCond .ne 5, 3) := by decide +kernel
theorem d_M_wanted_148 : decode b_M_wanted 148 = .ok (.iconst 1, 1) := by decide +kernel
theorem d_M_wanted_149 : decode b_M_wanted 149 = .ok (.ireturn, 1) := by decide +kernel
theorem d_M_wanted_150 : decode b_M_wanted 150 = .ok (.iload_n 2, 1) := by decide +kernel
theorem d_M_wanted_151 : decode b_M_wanted 151 = .ok (.bipush 8, 2) := by decide +kernel
theorem d_M_wanted_153 : decode b_M_wanted 153 = .ok (.if_icmp .ne 5, 3) := by decide +kernel
theorem d_M_wanted_156 : decode b_M_wanted 156 = .ok (.iconst (-1), 1) := by decide +kernel
theorem d_M_wanted_157 : decode b_M_wanted 157 = .ok (.ireturn, 1) := by decide +kernel
theorem d_M_wanted_158 : decode b_M_wanted 158 = .ok (.aload_n 0, 1) := by decide +kernel
theorem d_M_wanted_159 : decode b_M_wanted 159 = .ok (.dup, 1) := by decide +kernel
theorem d_M_wanted_160 : decode b_M_wanted 160 = .ok (.getfield 126, 3) := by decide +kernel
theorem d_M_wanted_163 : decode b_M_wanted 163 = .ok (.iconst 1, 1) := by decide +kernel
theorem d_M_wanted_164 : decode b_M_wanted 164 = .ok (.iadd, 1) := by decide +kernel
theorem d_M_wanted_165 : decode b_M_wanted 165 = .ok (.putfield 126, 3) := by decide +kernel
theorem d_M_wanted_168 : decode b_M_wanted 168 = .ok (.aload_n 0, 1) := by decide +kernel
theorem d_M_wanted_169 : decode b_M_wanted 169 = .ok (.aload_n 0, 1) := by decide +kernel
theorem d_M_wanted_170 : decode b_M_wanted 170 = .ok (.getfield 126, 3) := by decide +kernel
theorem d_M_wanted_173 : decode b_M_wanted 173 = .ok (.invokevirtual 129, 3) := by decide +kernel
theorem d_M_wanted_176 : decode b_M_wanted 176 = .ok (.bipush 41, 2) := by decide +kernel
theorem d_M_wanted_178 : decode b_M_wanted 178 = .ok (.if_icmp .ne 15, 3) := by decide +kernel
theorem d_M_wanted_181 : decode b_M_wanted 181 = .ok (.aload_n 0, 1) := by decide +kernel
theorem d_M_wanted_182 : decode b_M_wanted 182 = .ok (.dup, 1) := by decide +kernel
theorem d_M_wanted_183 : decode b_M_wanted 183 = .ok (.getfield 126, 3) := by decide +kernel
theorem d_M_wanted_186 : decode b_M_wanted 186 = .ok (.iconst 1, 1) := by decide +kernel
theorem d_M_wanted_187 : decode b_M_wanted 187 = .ok (.iadd, 1) := by decide +kernel
theorem d_M_wanted_188 : decode b_M_wanted 188 = .ok (.putfield 126, 3) := by decide +kernel
theorem d_M_wanted_191 : decode b_M_wanted 191 = .ok (.iconst 1, 1) := by decide +kernel
theorem d_M_wanted_192 : decode b_M_wanted 192 = .ok (.ireturn, 1) := by decide +kernel
theorem d_M_wanted_193 : decode b_M_wanted 193 = .ok (.aload_n 0, 1) := by decide +kernel
theorem d_M_wanted_194 : decode b_M_wanted 194 = .ok (.bipush 9, 2) := by decide +kernel
theorem d_M_wanted_196 : decode b_M_wanted 196 = .ok (.iconst 0, 1) := by decide +kernel
theorem d_M_wanted_197 : decode b_M_wanted 197 = .ok (.iconst 0, 1) := by decide +kernel
theorem d_M_wanted_198 : decode b_M_wanted 198 = .ok (.iconst 0, 1) := by decide +kernel
theorem d_M_wanted_199 : decode b_M_wanted 199 = .ok (.invokevirtual 192, 3) := by decide +kernel
theorem d_M_wanted_202 : decode b_M_wanted 202 = .ok (.iconst 0, 1) := by decide +kernel
theorem d_M_wanted_203 : decode b_M_wanted 203 = .ok (.ireturn, 1) := by decide +kernel
theorem d_M_wanted_204 : decode b_M_wanted 204 = .ok (.iload_n 3, 1) := by decide +kernel
theorem d_M_wanted_205 : decode b_M_wanted 205 = .ok (.bipush 39, 2) := by decide +kernel
theorem d_M_wanted_207 : decode b_M_wanted 207 = .ok (.if_icmp .ne 78, 3) := by decide +kernel
theorem d_M_wanted_210 : decode b_M_wanted 210 = .ok (.aload_n 0, 1) := by decide +kernel
theorem d_M_wanted_211 : decode b_M_wanted 211 = .ok (.getfield 126, 3) := by decide +kernel
theorem d_M_wanted_214 : decode b_M_wanted 214 = .ok (.iconst 1, 1) := by decide +kernel
theorem d_M_wanted_215 : decode b_M_wanted 215 = .ok (.iadd, 1) := by decide +kernel
theorem d_M_wanted_216 : decode b_M_wanted 216 = .ok (.istore 6, 2) := by decide +kernel
theorem d_M_wanted_218 : decode b_M_wanted 218 = .ok (.iload 6, 2) := by decide +kernel
theorem d_M_wanted_220 : decode b_M_wanted 220 = .ok (.aload_n 0, 1) := by decide +kernel
theorem d_M_wanted_221 : decode b_M_wanted 221 = .ok (.getfield 116, 3) := by decide +kernel
theorem d_M_wanted_224 : decode b_M_wanted 224 = .ok (.if_icmp .ge 21, 3) := by decide +kernel
theorem d_M_wanted_227 : decode b_M_wanted 227 = .ok (.aload_n 0, 1) := by decide +kernel
theorem d_M_wanted_228 : decode b_M_wanted 228 = .ok (.getfield 20, 3) := by decide +kernel
theorem d_M_wanted_231 : decode b_M_wanted 231 = .ok (.iload 6, 2) := by decide +kernel
theorem d_M_wanted_233 : decode b_M_wanted 233 = .ok (.caload, 1) := by decide +kernel
theorem d_M_wanted_234 : decode b_M_wanted 234 = .ok (.bipush 39, 2) := by decide +kernel
theorem d_M_wanted_236 : decode b_M_wanted 236 = .ok (.if_icmp .eq 9, 3) := by decide +kernel
theorem d_M_wanted_239 : decode b_M_wanted 239 = .ok (.iinc 6 1, 3) := by decide +kernel
theorem d_M_wanted_242 : decode b_M_wanted 242 = .ok (.goto (-24), 3) := by decide +kernel
theorem d_M_wanted_245 : decode b_M_wanted 245 = .ok (.iload 6, 2) := by decide +kernel
theorem d_M_wanted_247 : decode b_M_wanted 247 = .ok (.aload_n 0, 1) := by decide +kernel
theorem d_M_wanted_248 : decode b_M_wanted 248 = .ok (.getfield 116, 3) := by decide +kernel
theorem d_M_wanted_251 : decode b_M_wanted 251 = .ok (.if_icmp .ne 5, 3) := by decide +kernel
theorem d_M_wanted_254 : decode b_M_wanted 254 = .ok (.iconst (-1), 1) := by decide +kernel
theorem d_M_wanted_255 : decode b_M_wanted 255 = .ok (.ireturn, 1) := by decide +kernel
theorem d_M_wanted_256 : decode b_M_wanted 256 = .ok (.aload_n 0, 1) := by decide +kernel
theorem d_M_wanted_257 : decode b_M_wanted 257 = .ok (.aload_n 0, 1) := by decide +kernel
theorem d_M_wanted_258 : decode b_M_wanted 258 = .ok (.iconst 0, 1) := by decide +kernel
theorem d_M_wanted_259 : decode b_M_wanted 259 = .ok (.aload_n 0, 1) := by decide +kernel
theorem d_M_wanted_260 : decode b_M_wanted 260 = .ok (.getfield 126, 3) := by decide +kernel
theorem d_M_wanted_263 : decode b_M_wanted 263 = .ok (.iload 6, 2) := by decide +kernel
theorem d_M_wanted_265 : decode b_M_wanted 265 = .ok (.iconst 1, 1) := by decide +kernel
theorem d_M_wanted_266 : decode b_M_wanted 266 = .ok (.iadd, 1) := by decide +kernel
theorem d_M_wanted_267 : decode b_M_wanted 267 = .ok (.iconst (-1), 1) := by decide +kernel
theorem d_M_wanted_268 : decode b_M_wanted 268 = .ok (.iconst (-1), 1) := by decide +kernel
theorem d_M_wanted_269 : decode b_M_wanted 269 = .ok (.invokevirtual 182, 3) := by decide +kernel
theorem d_M_wanted_272 : decode b_M_wanted 272 = .ok (.invokevirtual 186, 3) := by decide +kernel
theorem d_M_wanted_275 : decode b_M_wanted 275 = .ok (.aload_n 0, 1) := by decide +kernel
theorem d_M_wanted_276 : decode b_M_wanted 276 = .ok (.iload 6, 2) := by decide +kernel
theorem d_M_wanted_278 : decode b_M_wanted 278 = .ok (.iconst 1, 1) := by decide +kernel
theorem d_M_wanted_279 : decode b_M_wanted 279 = .ok (.iadd, 1) := by decide +kernel
theorem d_M_wanted_280 : decode b_M_wanted 280 = .ok (.putfield 126, 3) := by decide +kernel
theorem d_M_wanted_283 : decode b_M_wanted 283 = .ok (.iconst 1, 1) := by decide +kernel
theorem d_M_wanted_284 : decode b_M_wanted 284 = .ok (.ireturn, 1) := by decide +kernel
theorem d_M_wanted_285 : decode b_M_wanted 285 = .ok (.iload_n 3, 1) := by decide +kernel
theorem d_M_wanted_286 : decode b_M_wanted 286 = .ok (.bipush 40, 2) := by decide +kernel
theorem d_M_wanted_288 : decode b_M_wanted 288 = .ok (.if_icmp .ne 34, 3) := by decide +kernel
theorem d_M_wanted_291 : decode b_M_wanted 291 = .ok (.aload_n 0, 1) := by decide +kernel
theorem d_M_wanted_292 : decode b_M_wanted 292 = .ok (.dup, 1) := by decide +kernel
theorem d_M_wanted_293 : decode b_M_wanted 293 = .ok (.getfield 126, 3) := by decide +kernel
theorem d_M_wanted_296 : decode b_M_wanted 296 = .ok (.iconst 1, 1) := by decide +kernel
theorem d_M_wanted_297 : decode b_M_wanted 297 = .ok (.iadd, 1) := by decide +kernel
theorem d_M_wanted_298 : decode b_M_wanted 298 = .ok (.putfield 126, 3) := by decide +kernel
theorem d_M_wanted_301 : decode b_M_wanted 301 = .ok (.aload_n 0, 1) := by decide +kernel
theorem d_M_wanted_302 : decode b_M_wanted 302 = .ok (.bipush 8, 2) := by decide +kernel
theorem d_M_wanted_304 : decode b_M_wanted 304 = .ok (.iconst 0, 1) := by decide +kernel
theorem d_M_wanted_305 : decode b_M_wanted 305 = .ok (.iconst 0, 1) := by decide +kernel
theorem d_M_wanted_306 : decode b_M_wanted 306 = .ok (.iconst 0, 1) := by decide +kernel
theorem d_M_wanted_307 : decode b_M_wanted 307 = .ok (.invokevirtual 192, 3) := by decide +kernel
theorem d_M_wanted_310 : decode b_M_wanted 310 = .ok (.iload_n 2, 1) := by decide +kernel
theorem d_M_wanted_311 : decode b_M_wanted 311 = .ok (.bipush 8, 2) := by decide +kernel
theorem d_M_wanted_313 : decode b_M_wanted 313 = .ok (.if_icmp .ne 7, 3) := by decide +kernel
theorem d_M_wanted_316 : decode b_M_wanted 316 = .ok (.iconst (-1), 1) := by decide +kernel
theorem d_M_wanted_317 : decode b_M_wanted 317 = .ok (.goto 4, 3) := by decide +kernel
theorem d_M_wanted_320 : decode b_M_wanted 320 = .ok (.iconst 0, 1) := by decide +kernel
theorem d_M_wanted_321 : decode b_M_wanted 321 = .ok (.ireturn, 1) := by decide +kernel
theorem d_M_wanted_322 : decode b_M_wanted 322 = .ok (.aload_n 0, 1) := by decide +kernel
theorem d_M_wanted_323 : decode b_M_wanted 323 = .ok (.aload_n 0, 1) := by decide +kernel
theorem d_M_wanted_324 : decode b_M_wanted 324 = .ok (.getfield 126, 3) := by decide +kernel
theorem d_M_wanted_327 : decode b_M_wanted 327 = .ok (.invokevirtual 170, 3) := by decide +kernel
theorem d_M_wanted_330 : decode b_M_wanted 330 = .ok (.istore 6, 2) := by decide +kernel
theorem d_M_wanted_332 : decode b_M_wanted 332 = .ok (.iload 6, 2) := by decide +kernel
theorem d_M_wanted_334 : decode b_M_wanted 334 = .ok (.bipush 20, 2) := by decide +kernel
theorem d_M_wanted_336 : decode b_M_wanted 336 = .ok (.if_icmp .ne 40, 3) := by decide +kernel
theorem d_M_wanted_339 : decode b_M_wanted 339 = .ok (.aload_n 0, 1) := by decide +kernel
theorem d_M_wanted_340 : decode b_M_wanted 340 = .ok (.aload_n 0, 1) := by decide +kernel
theorem d_M_wanted_341 : decode b_M_wanted 341 = .ok (.iconst 0, 1) := by decide +kernel
theorem d_M_wanted_342 : decode b_M_wanted 342 = .ok (.aload_n 0, 1) := by decide +kernel
theorem d_M_wanted_343 : decode b_M_wanted 343 = .ok (.getfield 126, 3) := by decide +kernel
theorem d_M_wanted_346 : decode b_M_wanted 346 = .ok (.aload_n 0, 1) := by decide +kernel
theorem d_M_wanted_347 : decode b_M_wanted 347 = .ok (.aload_n 0, 1) := by decide +kernel
theorem d_M_wanted_348 : decode b_M_wanted 348 = .ok (.getfield 126, 3) := by decide +kernel
theorem d_M_wanted_351 : decode b_M_wanted 351 = .ok (.invokevirtual 196, 3) := by decide +kernel
theorem d_M_wanted_354 : decode b_M_wanted 354 = .ok (.iconst (-1), 1) := by decide +kernel
theorem d_M_wanted_355 : decode b_M_wanted 355 = .ok (.iconst (-1), 1) := by decide +kernel
theorem d_M_wanted_356 : decode b_M_wanted 356 = .ok (.invokevirtual 182, 3) := by decide +kernel
theorem d_M_wanted_359 : decode b_M_wanted 359 = .ok (.invokevirtual 186, 3) := by decide +kernel
theorem d_M_wanted_362 : decode b_M_wanted 362 = .ok (.aload_n 0, 1) := by decide +kernel
theorem d_M_wanted_363 : decode b_M_wanted 363 = .ok (.aload_n 0, 1) := by decide +kernel
theorem d_M_wanted_364 : decode b_M_wanted 364 = .ok (.aload_n 0, 1) := by decide +kernel
theorem d_M_wanted_365 : decode b_M_wanted 365 = .ok (.getfield 126, 3) := by decide +kernel
theorem d_M_wanted_368 : decode b_M_wanted 368 = .ok (.invokevirtual 196, 3) := by decide +kernel
theorem d_M_wanted_371 : decode b_M_wanted 371 = .ok (.putfield 126, 3) := by decide +kernel
theorem d_M_wanted_374 : decode b_M_wanted 374 = .ok (.iconst 1, 1) := by decide +kernel
theorem d_M_wanted_375 : decode b_M_wanted 375 = .ok (.ireturn, 1) := by decide +kernel
theorem d_M_wanted_376 : decode b_M_wanted 376 = .ok (.iload 6, 2) := by decide +kernel
theorem d_M_wanted_378 : decode b_M_wanted 378 = .ok (.iconst 3, 1) := by decide +kernel
theorem d_M_wanted_379 : decode b_M_wanted 379 = .ok (.if_icmp .ne 16, 3) := by decide +kernel
theorem d_M_wanted_382 : decode b_M_wanted 382 = .ok (.iload_n 1, 1) := by decide +kernel
theorem d_M_wanted_383 : decode b_M_wanted 383 = .ok (.iconst 2, 1) := by decide +kernel
theorem d_M_wanted_384 : decode b_M_wanted 384 = .ok (.if_icmp .ne 7, 3) := by decide +kernel
theorem d_M_wanted_387 : decode b_M_wanted 387 = .ok (.iconst 1, 1) := by decide +kernel
theorem d_M_wanted_388 : decode b_M_wanted 388 = .ok (.goto 28, 3) := by decide +kernel
theorem d_M_wanted_391 : decode b_M_wanted 391 = .ok (.iconst 0, 1) := by decide +kernel
theorem d_M_wanted_392 : decode b_M_wanted 392 = .ok (.goto 24, 3) := by decide +kernel
theorem d_M_wanted_395 : decode b_M_wanted 395 = .ok (.iload_n 3, 1) := by decide +kernel
theorem d_M_wanted_396 : decode b_M_wanted 396 = .ok (.bipush 43, 2) := by decide +kernel
theorem d_M_wanted_398 : decode b_M_wanted 398 = .ok (.if_icmp .eq 9, 3) := by decide +kernel
theorem d_M_wanted_401 : decode b_M_wanted 401 = .ok (.iload_n 3, 1) := by decide +kernel
theorem d_M_wanted_402 : decode b_M_wanted 402 = .ok (.bipush 45, 2) := by decide +kernel
theorem d_M_wanted_404 : decode b_M_wanted 404 = .ok (.if_icmp .ne 11, 3) := by decide +kernel
theorem d_M_wanted_407 : decode b_M_wanted 407 = .ok (.iload_n 1, 1) := by decide +kernel
theorem d_M_wanted_408 : decode b_M_wanted 408 = .ok (.ifCond .le 7, 3) := by decide +kernel
theorem d_M_wanted_411 : decode b_M_wanted 411 = .ok (.iconst 1, 1) := by decide +kernel
theorem d_M_wanted_412 : decode b_M_wanted 412 = .ok (.goto 4, 3) := by decide +kernel
theorem d_M_wanted_415 : decode b_M_wanted 415 = .ok (.iconst 0, 1) := by decide +kernel
theorem d_M_wanted_416 : decode b_M_wanted 416 = .ok (.istore 7, 2) := by decide +kernel
theorem d_M_wanted_418 : decode b_M_wanted 418 = .ok (.iload 7, 2) := by decide +kernel
theorem d_M_wanted_420 : decode b_M_wanted 420 = .ok (.ifCond .ne 5, 3) := by decide +kernel
theorem d_M_wanted_423 : decode b_M_wanted 423 = .ok (.iconst (-1), 1) := by decide +kernel
theorem d_M_wanted_424 : decode b_M_wanted 424 = .ok (.ireturn, 1) := by decide +kernel
theorem d_M_wanted_425 : decode b_M_wanted 425 = .ok (.iload 6, 2) := by decide +kernel
theorem d_M_wanted_427 : decode b_M_wanted 427 = .ok (.iconst 3, 1) := by decide +kernel
theorem d_M_wanted_428 : decode b_M_wanted 428 = .ok (.if_icmp .ne 14, 3) := by decide +kernel
theorem d_M_wanted_431 : decode b_M_wanted 431 = .ok (.aload_n 0, 1) := by decide +kernel
theorem d_M_wanted_432 : decode b_M_wanted 432 = .ok (.aload_n 0, 1) := by decide +kernel
theorem d_M_wanted_433 : decode b_M_wanted 433 = .ok (.getfield 126, 3) := by decide +kernel
theorem d_M_wanted_436 : decode b_M_wanted 436 = .ok (.invokevirtual 196, 3) := by decide +kernel
theorem d_M_wanted_439 : decode b_M_wanted 439 = .ok (.goto 9, 3) := by decide +kernel
theorem d_M_wanted_442 : decode b_M_wanted 442 = .ok (.aload_n 0, 1) := by decide +kernel
theorem d_M_wanted_443 : decode b_M_wanted 443 = .ok (.getfield 126, 3) := by decide +kernel
theorem d_M_wanted_446 : decode b_M_wanted 446 = .ok (.iconst 1, 1) := by decide +kernel
theorem d_M_wanted_447 : decode b_M_wanted 447 = .ok (.iadd, 1) := by decide +kernel
theorem d_M_wanted_448 : decode b_M_wanted 448 = .ok (.istore 8, 2) := by decide +kernel
theorem d_M_wanted_450 : decode b_M_wanted 450 = .ok (.aload_n 0, 1) := by decide +kernel
theorem d_M_wanted_451 : decode b_M_wanted 451 = .ok (.iload 6, 2) := by decide +kernel
theorem d_M_wanted_453 : decode b_M_wanted 453 = .ok (.iconst 3, 1) := by decide +kernel
theorem d_M_wanted_454 : decode b_M_wanted 454 = .ok (.if_icmp .ne 7, 3) := by decide +kernel
theorem d_M_wanted_457 : decode b_M_wanted 457 = .ok (.iconst 3, 1) := by decide +kernel
theorem d_M_wanted_458 : decode b_M_wanted 458 = .ok (.goto 4, 3) := by decide +kernel
theorem d_M_wanted_461 : decode b_M_wanted 461 = .ok (.iconst 5, 1) := by decide +kernel
theorem d_M_wanted_462 : decode b_M_wanted 462 = .ok (.aload_n 0, 1) := by decide +kernel
theorem d_M_wanted_463 : decode b_M_wanted 463 = .ok (.getfield 126, 3) := by decide +kernel
theorem d_M_wanted_466 : decode b_M_wanted 466 = .ok (.iload 8, 2) := by decide +kernel
theorem d_M_wanted_468 : decode b_M_wanted 468 = .ok (.iconst 1, 1) := by decide +kernel
theorem d_M_wanted_469 : decode b_M_wanted 469 = .ok (.invokevirtual 192, 3) := by decide +kernel
theorem d_M_wanted_472 : decode b_M_wanted 472 = .ok (.aload_n 0, 1) := by decide +kernel
theorem d_M_wanted_473 : decode b_M_wanted 473 = .ok (.iload 8, 2) := by decide +kernel
theorem d_M_wanted_475 : decode b_M_wanted 475 = .ok (.putfield 126, 3) := by decide +kernel
theorem d_M_wanted_478 : decode b_M_wanted 478 = .ok (.iconst 0, 1) := by decide +kernel
theorem d_M_wanted_479 : decode b_M_wanted 479 = .ok (.ireturn, 1) := by decide +kernel
abbrev y_M_between : MethodName := ⟨"DeckFrontModel", "between", "()I"⟩
abbrev b_M_between : ByteArray := prog_8_method_34_code
abbrev w_M_between : List Cond := (Jvm.Cond.code ({ cls := "DeckFrontModel", name := "between", desc := "()I" } : Jvm.MethodName) prog_8_method_34_code (3 : Nat) (Option.some Jvm.ClassFile.FieldType.int)) :: wG
theorem d_M_between_0 : decode b_M_between 0 = .ok (.aload_n 0, 1) := by decide +kernel
theorem d_M_between_1 : decode b_M_between 1 = .ok (.aload_n 0, 1) := by decide +kernel
theorem d_M_between_2 : decode b_M_between 2 = .ok (.getfield 126, 3) := by decide +kernel
theorem d_M_between_5 : decode b_M_between 5 = .ok (.invokevirtual 129, 3) := by decide +kernel
theorem d_M_between_8 : decode b_M_between 8 = .ok (.istore_n 1, 1) := by decide +kernel
theorem d_M_between_9 : decode b_M_between 9 = .ok (.iload_n 1, 1) := by decide +kernel
theorem d_M_between_10 : decode b_M_between 10 = .ok (.bipush 43, 2) := by decide +kernel
theorem d_M_between_12 : decode b_M_between 12 = .ok (.if_icmp .eq 9, 3) := by decide +kernel
theorem d_M_between_15 : decode b_M_between 15 = .ok (.iload_n 1, 1) := by decide +kernel
theorem d_M_between_16 : decode b_M_between 16 = .ok (.bipush 45, 2) := by decide +kernel
theorem d_M_between_18 : decode b_M_between 18 = .ok (.if_icmp .ne 5, 3) := by decide +kernel
theorem d_M_between_21 : decode b_M_between 21 = .ok (.iconst 5, 1) := by decide +kernel
theorem d_M_between_22 : decode b_M_between 22 = .ok (.ireturn, 1) := by decide +kernel
theorem d_M_between_23 : decode b_M_between 23 = .ok (.iload_n 1, 1) := by decide +kernel
theorem d_M_between_24 : decode b_M_between 24 = .ok (.bipush 42, 2) := by decide +kernel
theorem d_M_between_26 : decode b_M_between 26 = .ok (.if_icmp .eq 9, 3) := by decide +kernel
theorem d_M_between_29 : decode b_M_between 29 = .ok (.iload_n 1, 1) := by decide +kernel
theorem d_M_between_30 : decode b_M_between 30 = .ok (.bipush 47, 2) := by decide +kernel
theorem d_M_between_32 : decode b_M_between 32 = .ok (.if_icmp .ne 32, 3) := by decide +kernel
theorem d_M_between_35 : decode b_M_between 35 = .ok (.iload_n 1, 1) := by decide +kernel
theorem d_M_between_36 : decode b_M_between 36 = .ok (.bipush 42, 2) := by decide +kernel
theorem d_M_between_38 : decode b_M_between 38 = .ok (.if_icmp .ne 23, 3) := by decide +kernel
theorem d_M_between_41 : decode b_M_between 41 = .ok (.aload_n 0, 1) := by decide +kernel
theorem d_M_between_42 : decode b_M_between 42 = .ok (.aload_n 0, 1) := by decide +kernel
theorem d_M_between_43 : decode b_M_between 43 = .ok (.getfield 126, 3) := by decide +kernel
theorem d_M_between_46 : decode b_M_between 46 = .ok (.iconst 1, 1) := by decide +kernel
theorem d_M_between_47 : decode b_M_between 47 = .ok (.iadd, 1) := by decide +kernel
theorem d_M_between_48 : decode b_M_between 48 = .ok (.invokevirtual 129, 3) := by decide +kernel
theorem d_M_between_51 : decode b_M_between 51 = .ok (.bipush 42, 2) := by decide +kernel
theorem d_M_between_53 : decode b_M_between 53 = .ok (.if_icmp .ne 8, 3) := by decide +kernel
theorem d_M_between_56 : decode b_M_between 56 = .ok (.bipush 7, 2) := by decide +kernel
theorem d_M_between_58 : decode b_M_between 58 = .ok (.goto 5, 3) := by decide +kernel
theorem d_M_between_61 : decode b_M_between 61 = .ok (.bipush 6, 2) := by decide +kernel
theorem d_M_between_63 : decode b_M_between 63 = .ok (.ireturn, 1) := by decide +kernel
theorem d_M_between_64 : decode b_M_between 64 = .ok (.aload_n 0, 1) := by decide +kernel
theorem d_M_between_65 : decode b_M_between 65 = .ok (.aload_n 0, 1) := by decide +kernel
theorem d_M_between_66 : decode b_M_between 66 = .ok (.getfield 126, 3) := by decide +kernel
theorem d_M_between_69 : decode b_M_between 69 = .ok (.invokevirtual 170, 3) := by decide +kernel
theorem d_M_between_72 : decode b_M_between 72 = .ok (.istore_n 2, 1) := by decide +kernel
theorem d_M_between_73 : decode b_M_between 73 = .ok (.iload_n 2, 1) := by decide +kernel
theorem d_M_between_74 : decode b_M_between 74 = .ok (.iconst 1, 1) := by decide +kernel
theorem d_M_between_75 : decode b_M_between 75 = .ok (.if_icmp .eq 13, 3) := by decide +kernel
theorem d_M_between_78 : decode b_M_between 78 = .ok (.iload_n 2, 1) := by decide +kernel
theorem d_M_between_79 : decode b_M_between 79 = .ok (.iconst 2, 1) := by decide +kernel
theorem d_M_between_80 : decode b_M_between 80 = .ok (.if_icmp .eq 8, 3) := by decide +kernel
theorem d_M_between_83 : decode b_M_between 83 = .ok (.iload_n 2, 1) := by decide +kernel
theorem d_M_between_84 : decode b_M_between 84 = .ok (.iconst 4, 1) := by decide +kernel
theorem d_M_between_85 : decode b_M_between 85 = .ok (.if_icmp .ne 7, 3) := by decide +kernel
theorem d_M_between_88 : decode b_M_between 88 = .ok (.iload_n 2, 1) := by decide +kernel
theorem d_M_between_89 : decode b_M_between 89 = .ok (.goto 4, 3) := by decide +kernel
theorem d_M_between_92 : decode b_M_between 92 = .ok (.iconst 0, 1) := by decide +kernel
theorem d_M_between_93 : decode b_M_between 93 = .ok (.ireturn, 1) := by decide +kernel
abbrev y_M_related : MethodName := ⟨"DeckFrontModel", "related", "()Z"⟩
abbrev b_M_related : ByteArray := prog_8_method_35_code
abbrev w_M_related : List Cond := (Jvm.Cond.code ({ cls := "DeckFrontModel", name := "related", desc := "()Z" } : Jvm.MethodName) prog_8_method_35_code (2 : Nat) (Option.some Jvm.ClassFile.FieldType.boolean)) :: wG
theorem d_M_related_0 : decode b_M_related 0 = .ok (.aload_n 0, 1) := by decide +kernel
theorem d_M_related_1 : decode b_M_related 1 = .ok (.getfield 179, 3) := by decide +kernel
theorem d_M_related_4 : decode b_M_related 4 = .ok (.iconst 1, 1) := by decide +kernel
theorem d_M_related_5 : decode b_M_related 5 = .ok (.isub, 1) := by decide +kernel
theorem d_M_related_6 : decode b_M_related 6 = .ok (.istore_n 1, 1) := by decide +kernel
theorem d_M_related_7 : decode b_M_related 7 = .ok (.iload_n 1, 1) := by decide +kernel
theorem d_M_related_8 : decode b_M_related 8 = .ok (.ifCond .lt 30, 3) := by decide +kernel
theorem d_M_related_11 : decode b_M_related 11 = .ok (.aload_n 0, 1) := by decide +kernel
theorem d_M_related_12 : decode b_M_related 12 = .ok (.getfield 60, 3) := by decide +kernel
theorem d_M_related_15 : decode b_M_related 15 = .ok (.iload_n 1, 1) := by decide +kernel
theorem d_M_related_16 : decode b_M_related 16 = .ok (.iaload, 1) := by decide +kernel
theorem d_M_related_17 : decode b_M_related 17 = .ok (.bipush 8, 2) := by decide +kernel
theorem d_M_related_19 : decode b_M_related 19 = .ok (.if_icmp .ge 19, 3) := by decide +kernel
theorem d_M_related_22 : decode b_M_related 22 = .ok (.aload_n 0, 1) := by decide +kernel
theorem d_M_related_23 : decode b_M_related 23 = .ok (.getfield 60, 3) := by decide +kernel
theorem d_M_related_26 : decode b_M_related 26 = .ok (.iload_n 1, 1) := by decide +kernel
theorem d_M_related_27 : decode b_M_related 27 = .ok (.iaload, 1) := by decide +kernel
theorem d_M_related_28 : decode b_M_related 28 = .ok (.iconst 4, 1) := by decide +kernel
theorem d_M_related_29 : decode b_M_related 29 = .ok (.if_icmp .le 9, 3) := by decide +kernel
theorem d_M_related_32 : decode b_M_related 32 = .ok (.iinc 1 (-1), 3) := by decide +kernel
theorem d_M_related_35 : decode b_M_related 35 = .ok (.goto (-28), 3) := by decide +kernel
theorem d_M_related_38 : decode b_M_related 38 = .ok (.iload_n 1, 1) := by decide +kernel
theorem d_M_related_39 : decode b_M_related 39 = .ok (.ifCond .lt 17, 3) := by decide +kernel
theorem d_M_related_42 : decode b_M_related 42 = .ok (.aload_n 0, 1) := by decide +kernel
theorem d_M_related_43 : decode b_M_related 43 = .ok (.getfield 60, 3) := by decide +kernel
theorem d_M_related_46 : decode b_M_related 46 = .ok (.iload_n 1, 1) := by decide +kernel
theorem d_M_related_47 : decode b_M_related 47 = .ok (.iaload, 1) := by decide +kernel
theorem d_M_related_48 : decode b_M_related 48 = .ok (.iconst 4, 1) := by decide +kernel
theorem d_M_related_49 : decode b_M_related 49 = .ok (.if_icmp .ne 7, 3) := by decide +kernel
theorem d_M_related_52 : decode b_M_related 52 = .ok (.iconst 1, 1) := by decide +kernel
theorem d_M_related_53 : decode b_M_related 53 = .ok (.goto 4, 3) := by decide +kernel
theorem d_M_related_56 : decode b_M_related 56 = .ok (.iconst 0, 1) := by decide +kernel
theorem d_M_related_57 : decode b_M_related 57 = .ok (.ireturn, 1) := by decide +kernel
abbrev y_M_print : MethodName := ⟨"DeckFrontModel", "print", "(I)V"⟩
abbrev b_M_print : ByteArray := prog_8_method_37_code
abbrev w_M_print : List Cond := (Jvm.Cond.code ({ cls := "DeckFrontModel", name := "print", desc := "(I)V" } : Jvm.MethodName) prog_8_method_37_code (5 : Nat) (Option.none : Option Jvm.ClassFile.FieldType)) :: wG
theorem d_M_print_0 : decode b_M_print 0 = .ok (.iconst 1, 1) := by decide +kernel
theorem d_M_print_1 : decode b_M_print 1 = .ok (.istore_n 2, 1) := by decide +kernel
theorem d_M_print_2 : decode b_M_print 2 = .ok (.aload_n 0, 1) := by decide +kernel
theorem d_M_print_3 : decode b_M_print 3 = .ok (.getfield 73, 3) := by decide +kernel
theorem d_M_print_6 : decode b_M_print 6 = .ok (.iconst 0, 1) := by decide +kernel
theorem d_M_print_7 : decode b_M_print 7 = .ok (.iload_n 1, 1) := by decide +kernel
theorem d_M_print_8 : decode b_M_print 8 = .ok (.iastore, 1) := by decide +kernel
theorem d_M_print_9 : decode b_M_print 9 = .ok (.iload_n 2, 1) := by decide +kernel
theorem d_M_print_10 : decode b_M_print 10 = .ok (.ifCond .le 335, 3) := by decide +kernel
theorem d_M_print_13 : decode b_M_print 13 = .ok (.iinc 2 (-1), 3) := by decide +kernel
theorem d_M_print_16 : decode b_M_print 16 = .ok (.aload_n 0, 1) := by decide +kernel
theorem d_M_print_17 : decode b_M_print 17 = .ok (.getfield 73, 3) := by decide +kernel
theorem d_M_print_20 : decode b_M_print 20 = .ok (.iload_n 2, 1) := by decide +kernel
theorem d_M_print_21 : decode b_M_print 21 = .ok (.iaload, 1) := by decide +kernel
theorem d_M_print_22 : decode b_M_print 22 = .ok (.istore_n 3, 1) := by decide +kernel
theorem d_M_print_23 : decode b_M_print 23 = .ok (.iload_n 3, 1) := by decide +kernel
theorem d_M_print_24 : decode b_M_print 24 = .ok (.sipush (-2000), 3) := by decide +kernel
theorem d_M_print_27 : decode b_M_print 27 = .ok (.if_icmp .gt 64, 3) := by decide +kernel
theorem d_M_print_30 : decode b_M_print 30 = .ok (.sipush (-2000), 3) := by decide +kernel
theorem d_M_print_33 : decode b_M_print 33 = .ok (.iload_n 3, 1) := by decide +kernel
theorem d_M_print_34 : decode b_M_print 34 = .ok (.isub, 1) := by decide +kernel
theorem d_M_print_35 : decode b_M_print 35 = .ok (.istore 4, 2) := by decide +kernel
theorem d_M_print_37 : decode b_M_print 37 = .ok (.aload_n 0, 1) := by decide +kernel
theorem d_M_print_38 : decode b_M_print 38 = .ok (.getfield 51, 3) := by decide +kernel
theorem d_M_print_41 : decode b_M_print 41 = .ok (.iload 4, 2) := by decide +kernel
theorem d_M_print_43 : decode b_M_print 43 = .ok (.iaload, 1) := by decide +kernel
theorem d_M_print_44 : decode b_M_print 44 = .ok (.ifCond .lt 33, 3) := by decide +kernel
theorem d_M_print_47 : decode b_M_print 47 = .ok (.aload_n 0, 1) := by decide +kernel
theorem d_M_print_48 : decode b_M_print 48 = .ok (.getfield 73, 3) := by decide +kernel
theorem d_M_print_51 : decode b_M_print 51 = .ok (.iload_n 2, 1) := by decide +kernel
theorem d_M_print_52 : decode b_M_print 52 = .ok (.sipush (-2000), 3) := by decide +kernel
theorem d_M_print_55 : decode b_M_print 55 = .ok (.aload_n 0, 1) := by decide +kernel
theorem d_M_print_56 : decode b_M_print 56 = .ok (.getfield 51, 3) := by decide +kernel
theorem d_M_print_59 : decode b_M_print 59 = .ok (.iload 4, 2) := by decide +kernel
theorem d_M_print_61 : decode b_M_print 61 = .ok (.iaload, 1) := by decide +kernel
theorem d_M_print_62 : decode b_M_print 62 = .ok (.isub, 1) := by decide +kernel
theorem d_M_print_63 : decode b_M_print 63 = .ok (.iastore, 1) := by decide +kernel
theorem d_M_print_64 : decode b_M_print 64 = .ok (.aload_n 0, 1) := by decide +kernel
theorem d_M_print_65 : decode b_M_print 65 = .ok (.getfield 73, 3) := by decide +kernel
theorem d_M_print_68 : decode b_M_print 68 = .ok (.iload_n 2, 1) := by decide +kernel
theorem d_M_print_69 : decode b_M_print 69 = .ok (.iconst 1, 1) := by decide +kernel
theorem d_M_print_70 : decode b_M_print 70 = .ok (.iadd, 1) := by decide +kernel
theorem d_M_print_71 : decode b_M_print 71 = .ok (.bipush (-45), 2) := by decide +kernel
theorem d_M_print_73 : decode b_M_print 73 = .ok (.iastore, 1) := by decide +kernel
theorem d_M_print_74 : decode b_M_print 74 = .ok (.iinc 2 2, 3) := by decide +kernel
theorem d_M_print_77 : decode b_M_print 77 = .ok (.aload_n 0, 1) := by decide +kernel
theorem d_M_print_78 : decode b_M_print 78 = .ok (.getfield 73, 3) := by decide +kernel
theorem d_M_print_81 : decode b_M_print 81 = .ok (.iload_n 2, 1) := by decide +kernel
theorem d_M_print_82 : decode b_M_print 82 = .ok (.iload 4, 2) := by decide +kernel
theorem d_M_print_84 : decode b_M_print 84 = .ok (.iastore, 1) := by decide +kernel
theorem d_M_print_85 : decode b_M_print 85 = .ok (.iinc 2 1, 3) := by decide +kernel
theorem d_M_print_88 : decode b_M_print 88 = .ok (.goto 254, 3) := by decide +kernel
theorem d_M_print_91 : decode b_M_print 91 = .ok (.iload_n 3, 1) := by decide +kernel
theorem d_M_print_92 : decode b_M_print 92 = .ok (.sipush (-1000), 3) := by decide +kernel
theorem d_M_print_95 : decode b_M_print 95 = .ok (.if_icmp .gt 30, 3) := by decide +kernel
theorem d_M_print_98 : decode b_M_print 98 = .ok (.aload_n 0, 1) := by decide +kernel
theorem d_M_print_99 : decode b_M_print 99 = .ok (.aload_n 0, 1) := by decide +kernel
theorem d_M_print_100 : decode b_M_print 100 = .ok (.getfield 39, 3) := by decide +kernel
theorem d_M_print_103 : decode b_M_print 103 = .ok (.sipush (-1000), 3) := by decide +kernel
theorem d_M_print_106 : decode b_M_print 106 = .ok (.iload_n 3, 1) := by decide +kernel
theorem d_M_print_107 : decode b_M_print 107 = .ok (.isub, 1) := by decide +kernel
theorem d_M_print_108 : decode b_M_print 108 = .ok (.iaload, 1) := by decide +kernel
theorem d_M_print_109 : decode b_M_print 109 = .ok (.aload_n 0, 1) := by decide +kernel
theorem d_M_print_110 : decode b_M_print 110 = .ok (.getfield 42, 3) := by decide +kernel
theorem d_M_print_113 : decode b_M_print 113 = .ok (.sipush (-1000), 3) := by decide +kernel
theorem d_M_print_116 : decode b_M_print 116 = .ok (.iload_n 3, 1) := by decide +kernel
theorem d_M_print_117 : decode b_M_print 117 = .ok (.isub, 1) := by decide +kernel
theorem d_M_print_118 : decode b_M_print 118 = .ok (.iaload, 1) := by decide +kernel
theorem d_M_print_119 : decode b_M_print 119 = .ok (.invokevirtual 134, 3) := by decide +kernel
theorem d_M_print_122 : decode b_M_print 122 = .ok (.goto 220, 3) := by decide +kernel
theorem d_M_print_125 : decode b_M_print 125 = .ok (.iload_n 3, 1) := by decide +kernel
theorem d_M_print_126 : decode b_M_print 126 = .ok (.ifCond .ge 13, 3) := by decide +kernel
theorem d_M_print_129 : decode b_M_print 129 = .ok (.aload_n 0, 1) := by decide +kernel
theorem d_M_print_130 : decode b_M_print 130 = .ok (.iconst (-1), 1) := by decide +kernel
theorem d_M_print_131 : decode b_M_print 131 = .ok (.iload_n 3, 1) := by decide +kernel
theorem d_M_print_132 : decode b_M_print 132 = .ok (.isub, 1) := by decide +kernel
theorem d_M_print_133 : decode b_M_print 133 = .ok (.invokevirtual 122, 3) := by decide +kernel
theorem d_M_print_136 : decode b_M_print 136 = .ok (.goto 206, 3) := by decide +kernel
theorem d_M_print_139 : decode b_M_print 139 = .ok (.aload_n 0, 1) := by decide +kernel
theorem d_M_print_140 : decode b_M_print 140 = .ok (.getfield 54, 3) := by decide +kernel
theorem d_M_print_143 : decode b_M_print 143 = .ok (.iload_n 3, 1) := by decide +kernel
theorem d_M_print_144 : decode b_M_print 144 = .ok (.iaload, 1) := by decide +kernel
theorem d_M_print_145 : decode b_M_print 145 = .ok (.ifCond .ne 22, 3) := by decide +kernel
theorem d_M_print_148 : decode b_M_print 148 = .ok (.aload_n 0, 1) := by decide +kernel
theorem d_M_print_149 : decode b_M_print 149 = .ok (.aload_n 0, 1) := by decide +kernel
theorem d_M_print_150 : decode b_M_print 150 = .ok (.getfield 39, 3) := by decide +kernel
theorem d_M_print_153 : decode b_M_print 153 = .ok (.iload_n 3, 1) := by decide +kernel
theorem d_M_print_154 : decode b_M_print 154 = .ok (.iaload, 1) := by decide +kernel
theorem d_M_print_155 : decode b_M_print 155 = .ok (.aload_n 0, 1) := by decide +kernel
theorem d_M_print_156 : decode b_M_print 156 = .ok (.getfield 42, 3) := by decide +kernel
theorem d_M_print_159 : decode b_M_print 159 = .ok (.iload_n 3, 1) := by decide +kernel
theorem d_M_print_160 : decode b_M_print 160 = .ok (.iaload, 1) := by decide +kernel
theorem d_M_print_161 : decode b_M_print 161 = .ok (.invokevirtual 134, 3) := by decide +kernel
theorem d_M_print_164 : decode b_M_print 164 = .ok (.goto 178, 3) := by decide +kernel
theorem d_M_print_167 : decode b_M_print 167 = .ok (.aload_n 0, 1) := by decide +kernel
theorem d_M_print_168 : decode b_M_print 168 = .ok (.getfield 54, 3) := by decide +kernel
theorem d_M_print_171 : decode b_M_print 171 = .ok (.iload_n 3, 1) := by decide +kernel
theorem d_M_print_172 : decode b_M_print 172 = .ok (.iaload, 1) := by decide +kernel
theorem d_M_print_173 : decode b_M_print 173 = .ok (.iconst 3, 1) := by decide +kernel
theorem d_M_print_174 : decode b_M_print 174 = .ok (.if_icmp .ne 67, 3) := by decide +kernel
theorem d_M_print_177 : decode b_M_print 177 = .ok (.aload_n 0, 1) := by decide +kernel
theorem d_M_print_178 : decode b_M_print 178 = .ok (.aload_n 0, 1) := by decide +kernel
theorem d_M_print_179 : decode b_M_print 179 = .ok (.getfield 39, 3) := by decide +kernel
theorem d_M_print_182 : decode b_M_print 182 = .ok (.iload_n 3, 1) := by decide +kernel
theorem d_M_print_183 : decode b_M_print 183 = .ok (.iaload, 1) := by decide +kernel
theorem d_M_print_184 : decode b_M_print 184 = .ok (.aload_n 0, 1) := by decide +kernel
theorem d_M_print_185 : decode b_M_print 185 = .ok (.getfield 42, 3) := by decide +kernel
theorem d_M_print_188 : decode b_M_print 188 = .ok (.iload_n 3, 1) := by decide +kernel
theorem d_M_print_189 : decode b_M_print 189 = .ok (.iaload, 1) := by decide +kernel
theorem d_M_print_190 : decode b_M_print 190 = .ok (.invokevirtual 134, 3) := by decide +kernel
theorem d_M_print_193 : decode b_M_print 193 = .ok (.aload_n 0, 1) := by decide +kernel
theorem d_M_print_194 : decode b_M_print 194 = .ok (.bipush 40, 2) := by decide +kernel
theorem d_M_print_196 : decode b_M_print 196 = .ok (.invokevirtual 122, 3) := by decide +kernel
theorem d_M_print_199 : decode b_M_print 199 = .ok (.aload_n 0, 1) := by decide +kernel
theorem d_M_print_200 : decode b_M_print 200 = .ok (.getfield 73, 3) := by decide +kernel
theorem d_M_print_203 : decode b_M_print 203 = .ok (.iload_n 2, 1) := by decide +kernel
theorem d_M_print_204 : decode b_M_print 204 = .ok (.bipush (-42), 2) := by decide +kernel
theorem d_M_print_206 : decode b_M_print 206 = .ok (.iastore, 1) := by decide +kernel
theorem d_M_print_207 : decode b_M_print 207 = .ok (.iinc 2 1, 3) := by decide +kernel
theorem d_M_print_210 : decode b_M_print 210 = .ok (.aload_n 0, 1) := by decide +kernel
theorem d_M_print_211 : decode b_M_print 211 = .ok (.getfield 45, 3) := by decide +kernel
theorem d_M_print_214 : decode b_M_print 214 = .ok (.iload_n 3, 1) := by decide +kernel
theorem d_M_print_215 : decode b_M_print 215 = .ok (.iaload, 1) := by decide +kernel
theorem d_M_print_216 : decode b_M_print 216 = .ok (.ifCond .lt 126, 3) := by decide +kernel
theorem d_M_print_219 : decode b_M_print 219 = .ok (.aload_n 0, 1) := by decide +kernel
theorem d_M_print_220 : decode b_M_print 220 = .ok (.getfield 73, 3) := by decide +kernel
theorem d_M_print_223 : decode b_M_print 223 = .ok (.iload_n 2, 1) := by decide +kernel
theorem d_M_print_224 : decode b_M_print 224 = .ok (.sipush (-2000), 3) := by decide +kernel
theorem d_M_print_227 : decode b_M_print 227 = .ok (.aload_n 0, 1) := by decide +kernel
theorem d_M_print_228 : decode b_M_print 228 = .ok (.getfield 45, 3) := by decide +kernel
theorem d_M_print_231 : decode b_M_print 231 = .ok (.iload_n 3, 1) := by decide +kernel
theorem d_M_print_232 : decode b_M_print 232 = .ok (.iaload, 1) := by decide +kernel
theorem d_M_print_233 : decode b_M_print 233 = .ok (.isub, 1) := by decide +kernel
theorem d_M_print_234 : decode b_M_print 234 = .ok (.iastore, 1) := by decide +kernel
theorem d_M_print_235 : decode b_M_print 235 = .ok (.iinc 2 1, 3) := by decide +kernel
theorem d_M_print_238 : decode b_M_print 238 = .ok (.goto 104, 3) := by decide +kernel
theorem d_M_print_241 : decode b_M_print 241 = .ok (.aload_n 0, 1) := by decide +kernel
theorem d_M_print_242 : decode b_M_print 242 = .ok (.bipush 40, 2) := by decide +kernel
theorem d_M_print_244 : decode b_M_print 244 = .ok (.invokevirtual 122, 3) := by decide +kernel
theorem d_M_print_247 : decode b_M_print 247 = .ok (.aload_n 0, 1) := by decide +kernel
theorem d_M_print_248 : decode b_M_print 248 = .ok (.getfield 73, 3) := by decide +kernel
theorem d_M_print_251 : decode b_M_print 251 = .ok (.iload_n 2, 1) := by decide +kernel
theorem d_M_print_252 : decode b_M_print 252 = .ok (.bipush (-42), 2) := by decide +kernel
theorem d_M_print_254 : decode b_M_print 254 = .ok (.iastore, 1) := by decide +kernel
theorem d_M_print_255 : decode b_M_print 255 = .ok (.iinc 2 1, 3) := by decide +kernel
theorem d_M_print_258 : decode b_M_print 258 = .ok (.aload_n 0, 1) := by decide +kernel
theorem d_M_print_259 : decode b_M_print 259 = .ok (.getfield 54, 3) := by decide +kernel
theorem d_M_print_262 : decode b_M_print 262 = .ok (.iload_n 3, 1) := by decide +kernel
theorem d_M_print_263 : decode b_M_print 263 = .ok (.iaload, 1) := by decide +kernel
theorem d_M_print_264 : decode b_M_print 264 = .ok (.iconst 1, 1) := by decide +kernel
theorem d_M_print_265 : decode b_M_print 265 = .ok (.if_icmp .ne 46, 3) := by decide +kernel
theorem d_M_print_268 : decode b_M_print 268 = .ok (.aload_n 0, 1) := by decide +kernel
theorem d_M_print_269 : decode b_M_print 269 = .ok (.getfield 73, 3) := by decide +kernel
theorem d_M_print_272 : decode b_M_print 272 = .ok (.iload_n 2, 1) := by decide +kernel
theorem d_M_print_273 : decode b_M_print 273 = .ok (.aload_n 0, 1) := by decide +kernel
theorem d_M_print_274 : decode b_M_print 274 = .ok (.getfield 48, 3) := by decide +kernel
theorem d_M_print_277 : decode b_M_print 277 = .ok (.iload_n 3, 1) := by decide +kernel
theorem d_M_print_278 : decode b_M_print 278 = .ok (.iaload, 1) := by decide +kernel
theorem d_M_print_279 : decode b_M_print 279 = .ok (.iastore, 1) := by decide +kernel
theorem d_M_print_280 : decode b_M_print 280 = .ok (.aload_n 0, 1) := by decide +kernel
theorem d_M_print_281 : decode b_M_print 281 = .ok (.getfield 73, 3) := by decide +kernel
theorem d_M_print_284 : decode b_M_print 284 = .ok (.iload_n 2, 1) := by decide +kernel
theorem d_M_print_285 : decode b_M_print 285 = .ok (.iconst 1, 1) := by decide +kernel
theorem d_M_print_286 : decode b_M_print 286 = .ok (.iadd, 1) := by decide +kernel
theorem d_M_print_287 : decode b_M_print 287 = .ok (.sipush (-1000), 3) := by decide +kernel
theorem d_M_print_290 : decode b_M_print 290 = .ok (.iload_n 3, 1) := by decide +kernel
theorem d_M_print_291 : decode b_M_print 291 = .ok (.isub, 1) := by decide +kernel
theorem d_M_print_292 : decode b_M_print 292 = .ok (.iastore, 1) := by decide +kernel
theorem d_M_print_293 : decode b_M_print 293 = .ok (.iinc 2 2, 3) := by decide +kernel
theorem d_M_print_296 : decode b_M_print 296 = .ok (.aload_n 0, 1) := by decide +kernel
theorem d_M_print_297 : decode b_M_print 297 = .ok (.getfield 73, 3) := by decide +kernel
theorem d_M_print_300 : decode b_M_print 300 = .ok (.iload_n 2, 1) := by decide +kernel
theorem d_M_print_301 : decode b_M_print 301 = .ok (.aload_n 0, 1) := by decide +kernel
theorem d_M_print_302 : decode b_M_print 302 = .ok (.getfield 45, 3) := by decide +kernel
theorem d_M_print_305 : decode b_M_print 305 = .ok (.iload_n 3, 1) := by decide +kernel
theorem d_M_print_306 : decode b_M_print 306 = .ok (.iaload, 1) := by decide +kernel
theorem d_M_print_307 : decode b_M_print 307 = .ok (.iastore, 1) := by decide +kernel
theorem d_M_print_308 : decode b_M_print 308 = .ok (.goto 31, 3) := by decide +kernel
theorem d_M_print_311 : decode b_M_print 311 = .ok (.aload_n 0, 1) := by decide +kernel
theorem d_M_print_312 : decode b_M_print 312 = .ok (.aload_n 0, 1) := by decide +kernel
theorem d_M_print_313 : decode b_M_print 313 = .ok (.getfield 39, 3) := by decide +kernel
theorem d_M_print_316 : decode b_M_print 316 = .ok (.iload_n 3, 1) := by decide +kernel
theorem d_M_print_317 : decode b_M_print 317 = .ok (.iaload, 1) := by decide +kernel
theorem d_M_print_318 : decode b_M_print 318 = .ok (.aload_n 0, 1) := by decide +kernel
theorem d_M_print_319 : decode b_M_print 319 = .ok (.getfield 42, 3) := by decide +kernel
theorem d_M_print_322 : decode b_M_print 322 = .ok (.iload_n 3, 1) := by decide +kernel
theorem d_M_print_323 : decode b_M_print 323 = .ok (.iaload, 1) := by decide +kernel
theorem d_M_print_324 : decode b_M_print 324 = .ok (.invokevirtual 134, 3) := by decide +kernel
theorem d_M_print_327 : decode b_M_print 327 = .ok (.aload_n 0, 1) := by decide +kernel
theorem d_M_print_328 : decode b_M_print 328 = .ok (.getfield 73, 3) := by decide +kernel
theorem d_M_print_331 : decode b_M_print 331 = .ok (.iload_n 2, 1) := by decide +kernel
theorem d_M_print_332 : decode b_M_print 332 = .ok (.aload_n 0, 1) := by decide +kernel
theorem d_M_print_333 : decode b_M_print 333 = .ok (.getfield 45, 3) := by decide +kernel
theorem d_M_print_336 : decode b_M_print 336 = .ok (.iload_n 3, 1) := by decide +kernel
theorem d_M_print_337 : decode b_M_print 337 = .ok (.iaload, 1) := by decide +kernel
theorem d_M_print_338 : decode b_M_print 338 = .ok (.iastore, 1) := by decide +kernel
theorem d_M_print_339 : decode b_M_print 339 = .ok (.iinc 2 1, 3) := by decide +kernel
theorem d_M_print_342 : decode b_M_print 342 = .ok (.goto (-333), 3) := by decide +kernel
theorem d_M_print_345 : decode b_M_print 345 = .ok (.return_, 1) := by decide +kernel

def R_law : String := "DeckFrontLaw"
def lw_P (b : Addr) (xs : List Int32) (args : Array Value) (s : State) : Prop := args = #[.ref b] ∧ s.IntsAt b xs ∧ xs.length ≤ 1536 ∧ (Jvm.Cond.and given_1 narrow_1).before args s = true
def lw_Q (_ : Array Value) (s : State) (o : Outcome) (t : State) : Prop := o = .returned (some (.int 1)) ∧ Framed s o t [] 601024 7293033
def lw_Z (below : List Frame) (a : Array Value) (s : State) : State → Prop := fun t => ∃ o, t.status = .running ∧ Ended t below o ∧ lw_Q a s o t
/-- the law's own end, with 1 on the stack, nothing written that was there before, its room as the claim has it -/
theorem lw_ret {p : Program} {l : Launch} {e : Env} {s : State} {m : MethodId} {below : List Frame} {meth : Method} {c : Code} {b : Nat} (hx : p.tables.exec = Jvm.exec) (hb : c.code = code) (hr : meth.sig.returnType = ret) (hlocks : meth.locks = false) {pc : Nat} {H : Heap} {ls : Array Slot} (hdg : decode code pc = .ok (.ireturn, 1)) : W p l e room_1 s m #[Value.ref b] below meth c H [] 601024 7293033 (lw_Z below #[Value.ref b] s) (F0 m pc ls [.int 1]) := by
  intro T hT X
  obtain ⟨fs, hret, hrun, hended, hW, hframe⟩ := X.leave (v := some (.int 1)) (hlocks := hlocks) (fun h => by rw [hr] at h; cases h)
  have hmeth' : T.vm.method? m = some meth := X.method'
  refine ⟨T.setFrames fs, ?_, .returned (some (.int 1)), hrun, hended, rfl, ⟨_, rfl⟩, hW, hframe⟩
  jvm_step X.here [X.here.top, hx, hb, hdg, hmeth', hr, ret, narrow_b1]
  (try refine ⟨rfl, ?_⟩); (try refine ⟨rfl, ?_⟩)
  first | (intro acts; rw [hret _ acts rfl rfl rfl]) | rw [hret _ _ rfl rfl rfl]
  exact Steps.refl _
/-- what holds at the law's entry: the machine, the code, the tables' words (any of lw_tbl by 'hts w (by decide +kernel)'), the script of L ints xs at the cell b, what the Statement gives of the start (any of its parts by flat_of_before) -/
def lw_At (p : Program) (s : State) (m : MethodId) (meth : Method) (c : Code) (b L : Nat) (xs : Nat → Int32) : Prop :=
  p.tables.exec = Jvm.exec ∧ c.code = code ∧ meth.sig.returnType = ret ∧ c.maxLocals = 7 ∧ s.vm.findClass R_law = some m.cls ∧ (∀ w ∈ lw_tbl, w.before #[Value.ref b] s = true) ∧ va_X b L xs s s.heap ∧ b < s.heap.size ∧ meth.locks = false ∧ (Jvm.Cond.and given_1 narrow_1).before #[Value.ref b] s = true
theorem d_L_law_0 : decode code 0 = .ok (.new 8, 3) := by decide +kernel
theorem d_L_law_3 : decode code 3 = .ok (.dup, 1) := by decide +kernel
theorem d_L_law_4 : decode code 4 = .ok (.invokespecial 17, 3) := by decide +kernel
theorem d_L_law_7 : decode code 7 = .ok (.astore_n 1, 1) := by decide +kernel
theorem d_L_law_8 : decode code 8 = .ok (.new 18, 3) := by decide +kernel
theorem d_L_law_11 : decode code 11 = .ok (.dup, 1) := by decide +kernel
theorem d_L_law_12 : decode code 12 = .ok (.invokespecial 20, 3) := by decide +kernel
theorem d_L_law_15 : decode code 15 = .ok (.astore_n 2, 1) := by decide +kernel
theorem d_L_law_16 : decode code 16 = .ok (.iconst 1, 1) := by decide +kernel
theorem d_L_law_17 : decode code 17 = .ok (.newarray .long, 2) := by decide +kernel
theorem d_L_law_19 : decode code 19 = .ok (.astore_n 3, 1) := by decide +kernel
theorem d_L_law_20 : decode code 20 = .ok (.iconst 0, 1) := by decide +kernel
theorem d_L_law_21 : decode code 21 = .ok (.istore 4, 2) := by decide +kernel
theorem d_L_law_23 : decode code 23 = .ok (.iload 4, 2) := by decide +kernel
theorem d_L_law_25 : decode code 25 = .ok (.aload_n 0, 1) := by decide +kernel
theorem d_L_law_26 : decode code 26 = .ok (.arraylength, 1) := by decide +kernel
theorem d_L_law_27 : decode code 27 = .ok (.iconst 3, 1) := by decide +kernel
theorem d_L_law_28 : decode code 28 = .ok (.isub, 1) := by decide +kernel
theorem d_L_law_29 : decode code 29 = .ok (.if_icmp .gt 425, 3) := by decide +kernel
theorem d_L_law_32 : decode code 32 = .ok (.aload_n 0, 1) := by decide +kernel
theorem d_L_law_33 : decode code 33 = .ok (.iload 4, 2) := by decide +kernel
theorem d_L_law_35 : decode code 35 = .ok (.iaload, 1) := by decide +kernel
theorem d_L_law_36 : decode code 36 = .ok (.bipush 15, 2) := by decide +kernel
theorem d_L_law_38 : decode code 38 = .ok (.iand, 1) := by decide +kernel
theorem d_L_law_39 : decode code 39 = .ok (.tableswitch 409 0 10 #[57, 114, 158, 169, 182, 207, 232, 269, 326, 383, 396], 57) := by decide +kernel
theorem d_L_law_96 : decode code 96 = .ok (.aload_n 1, 1) := by decide +kernel
theorem d_L_law_97 : decode code 97 = .ok (.aload_n 0, 1) := by decide +kernel
theorem d_L_law_98 : decode code 98 = .ok (.iload 4, 2) := by decide +kernel
theorem d_L_law_100 : decode code 100 = .ok (.iconst 1, 1) := by decide +kernel
theorem d_L_law_101 : decode code 101 = .ok (.iadd, 1) := by decide +kernel
theorem d_L_law_102 : decode code 102 = .ok (.iaload, 1) := by decide +kernel
theorem d_L_law_103 : decode code 103 = .ok (.i2l, 1) := by decide +kernel
theorem d_L_law_104 : decode code 104 = .ok (.bipush 32, 2) := by decide +kernel
theorem d_L_law_106 : decode code 106 = .ok (.lshl, 1) := by decide +kernel
theorem d_L_law_107 : decode code 107 = .ok (.aload_n 0, 1) := by decide +kernel
theorem d_L_law_108 : decode code 108 = .ok (.iload 4, 2) := by decide +kernel
theorem d_L_law_110 : decode code 110 = .ok (.iconst 2, 1) := by decide +kernel
theorem d_L_law_111 : decode code 111 = .ok (.iadd, 1) := by decide +kernel
theorem d_L_law_112 : decode code 112 = .ok (.iaload, 1) := by decide +kernel
theorem d_L_law_113 : decode code 113 = .ok (.i2l, 1) := by decide +kernel
theorem d_L_law_114 : decode code 114 = .ok (.ldc2_w 21, 3) := by decide +kernel
theorem d_L_law_117 : decode code 117 = .ok (.land, 1) := by decide +kernel
theorem d_L_law_118 : decode code 118 = .ok (.lor, 1) := by decide +kernel
theorem d_L_law_119 : decode code 119 = .ok (.invokevirtual 23, 3) := by decide +kernel
theorem d_L_law_122 : decode code 122 = .ok (.aload_n 2, 1) := by decide +kernel
theorem d_L_law_123 : decode code 123 = .ok (.aload_n 0, 1) := by decide +kernel
theorem d_L_law_124 : decode code 124 = .ok (.iload 4, 2) := by decide +kernel
theorem d_L_law_126 : decode code 126 = .ok (.iconst 1, 1) := by decide +kernel
theorem d_L_law_127 : decode code 127 = .ok (.iadd, 1) := by decide +kernel
theorem d_L_law_128 : decode code 128 = .ok (.iaload, 1) := by decide +kernel
theorem d_L_law_129 : decode code 129 = .ok (.i2l, 1) := by decide +kernel
theorem d_L_law_130 : decode code 130 = .ok (.bipush 32, 2) := by decide +kernel
theorem d_L_law_132 : decode code 132 = .ok (.lshl, 1) := by decide +kernel
theorem d_L_law_133 : decode code 133 = .ok (.aload_n 0, 1) := by decide +kernel
theorem d_L_law_134 : decode code 134 = .ok (.iload 4, 2) := by decide +kernel
theorem d_L_law_136 : decode code 136 = .ok (.iconst 2, 1) := by decide +kernel
theorem d_L_law_137 : decode code 137 = .ok (.iadd, 1) := by decide +kernel
theorem d_L_law_138 : decode code 138 = .ok (.iaload, 1) := by decide +kernel
theorem d_L_law_139 : decode code 139 = .ok (.i2l, 1) := by decide +kernel
theorem d_L_law_140 : decode code 140 = .ok (.ldc2_w 21, 3) := by decide +kernel
theorem d_L_law_143 : decode code 143 = .ok (.land, 1) := by decide +kernel
theorem d_L_law_144 : decode code 144 = .ok (.lor, 1) := by decide +kernel
theorem d_L_law_145 : decode code 145 = .ok (.invokevirtual 27, 3) := by decide +kernel
theorem d_L_law_148 : decode code 148 = .ok (.if_icmp .eq 300, 3) := by decide +kernel
theorem d_L_law_151 : decode code 151 = .ok (.iconst 0, 1) := by decide +kernel
theorem d_L_law_152 : decode code 152 = .ok (.ireturn, 1) := by decide +kernel
theorem d_L_law_153 : decode code 153 = .ok (.aload_n 1, 1) := by decide +kernel
theorem d_L_law_154 : decode code 154 = .ok (.aload_n 3, 1) := by decide +kernel
theorem d_L_law_155 : decode code 155 = .ok (.invokestatic 28, 3) := by decide +kernel
theorem d_L_law_158 : decode code 158 = .ok (.istore 5, 2) := by decide +kernel
theorem d_L_law_160 : decode code 160 = .ok (.aload_n 2, 1) := by decide +kernel
theorem d_L_law_161 : decode code 161 = .ok (.invokevirtual 33, 3) := by decide +kernel
theorem d_L_law_164 : decode code 164 = .ok (.istore 6, 2) := by decide +kernel
theorem d_L_law_166 : decode code 166 = .ok (.aload_n 2, 1) := by decide +kernel
theorem d_L_law_167 : decode code 167 = .ok (.invokevirtual 34, 3) := by decide +kernel
theorem d_L_law_170 : decode code 170 = .ok (.iload 5, 2) := by decide +kernel
theorem d_L_law_172 : decode code 172 = .ok (.if_icmp .eq 5, 3) := by decide +kernel
theorem d_L_law_175 : decode code 175 = .ok (.iconst 0, 1) := by decide +kernel
theorem d_L_law_176 : decode code 176 = .ok (.ireturn, 1) := by decide +kernel
theorem d_L_law_177 : decode code 177 = .ok (.iload 5, 2) := by decide +kernel
theorem d_L_law_179 : decode code 179 = .ok (.ifCond .ne 15, 3) := by decide +kernel
theorem d_L_law_182 : decode code 182 = .ok (.aload_n 3, 1) := by decide +kernel
theorem d_L_law_183 : decode code 183 = .ok (.iconst 0, 1) := by decide +kernel
theorem d_L_law_184 : decode code 184 = .ok (.laload, 1) := by decide +kernel
theorem d_L_law_185 : decode code 185 = .ok (.iload 6, 2) := by decide +kernel
theorem d_L_law_187 : decode code 187 = .ok (.i2l, 1) := by decide +kernel
theorem d_L_law_188 : decode code 188 = .ok (.lcmp, 1) := by decide +kernel
theorem d_L_law_189 : decode code 189 = .ok (.ifCond .eq 5, 3) := by decide +kernel
theorem d_L_law_192 : decode code 192 = .ok (.iconst 0, 1) := by decide +kernel
theorem d_L_law_193 : decode code 193 = .ok (.ireturn, 1) := by decide +kernel
theorem d_L_law_194 : decode code 194 = .ok (.goto 254, 3) := by decide +kernel
theorem d_L_law_197 : decode code 197 = .ok (.aload_n 1, 1) := by decide +kernel
theorem d_L_law_198 : decode code 198 = .ok (.invokevirtual 37, 3) := by decide +kernel
theorem d_L_law_201 : decode code 201 = .ok (.aload_n 2, 1) := by decide +kernel
theorem d_L_law_202 : decode code 202 = .ok (.invokevirtual 40, 3) := by decide +kernel
theorem d_L_law_205 : decode code 205 = .ok (.goto 243, 3) := by decide +kernel
theorem d_L_law_208 : decode code 208 = .ok (.aload_n 1, 1) := by decide +kernel
theorem d_L_law_209 : decode code 209 = .ok (.invokevirtual 41, 3) := by decide +kernel
theorem d_L_law_212 : decode code 212 = .ok (.aload_n 2, 1) := by decide +kernel
theorem d_L_law_213 : decode code 213 = .ok (.invokevirtual 44, 3) := by decide +kernel
theorem d_L_law_216 : decode code 216 = .ok (.if_icmp .eq 232, 3) := by decide +kernel
theorem d_L_law_219 : decode code 219 = .ok (.iconst 0, 1) := by decide +kernel
theorem d_L_law_220 : decode code 220 = .ok (.ireturn, 1) := by decide +kernel
theorem d_L_law_221 : decode code 221 = .ok (.aload_n 1, 1) := by decide +kernel
theorem d_L_law_222 : decode code 222 = .ok (.aload_n 0, 1) := by decide +kernel
theorem d_L_law_223 : decode code 223 = .ok (.iload 4, 2) := by decide +kernel
theorem d_L_law_225 : decode code 225 = .ok (.iconst 1, 1) := by decide +kernel
theorem d_L_law_226 : decode code 226 = .ok (.iadd, 1) := by decide +kernel
theorem d_L_law_227 : decode code 227 = .ok (.iaload, 1) := by decide +kernel
theorem d_L_law_228 : decode code 228 = .ok (.invokevirtual 45, 3) := by decide +kernel
theorem d_L_law_231 : decode code 231 = .ok (.aload_n 2, 1) := by decide +kernel
theorem d_L_law_232 : decode code 232 = .ok (.aload_n 0, 1) := by decide +kernel
theorem d_L_law_233 : decode code 233 = .ok (.iload 4, 2) := by decide +kernel
theorem d_L_law_235 : decode code 235 = .ok (.iconst 1, 1) := by decide +kernel
theorem d_L_law_236 : decode code 236 = .ok (.iadd, 1) := by decide +kernel
theorem d_L_law_237 : decode code 237 = .ok (.iaload, 1) := by decide +kernel
theorem d_L_law_238 : decode code 238 = .ok (.invokevirtual 49, 3) := by decide +kernel
theorem d_L_law_241 : decode code 241 = .ok (.if_icmp .eq 207, 3) := by decide +kernel
theorem d_L_law_244 : decode code 244 = .ok (.iconst 0, 1) := by decide +kernel
theorem d_L_law_245 : decode code 245 = .ok (.ireturn, 1) := by decide +kernel
theorem d_L_law_246 : decode code 246 = .ok (.aload_n 1, 1) := by decide +kernel
theorem d_L_law_247 : decode code 247 = .ok (.aload_n 0, 1) := by decide +kernel
theorem d_L_law_248 : decode code 248 = .ok (.iload 4, 2) := by decide +kernel
theorem d_L_law_250 : decode code 250 = .ok (.iconst 1, 1) := by decide +kernel
theorem d_L_law_251 : decode code 251 = .ok (.iadd, 1) := by decide +kernel
theorem d_L_law_252 : decode code 252 = .ok (.iaload, 1) := by decide +kernel
theorem d_L_law_253 : decode code 253 = .ok (.invokevirtual 50, 3) := by decide +kernel
theorem d_L_law_256 : decode code 256 = .ok (.aload_n 2, 1) := by decide +kernel
theorem d_L_law_257 : decode code 257 = .ok (.aload_n 0, 1) := by decide +kernel
theorem d_L_law_258 : decode code 258 = .ok (.iload 4, 2) := by decide +kernel
theorem d_L_law_260 : decode code 260 = .ok (.iconst 1, 1) := by decide +kernel
theorem d_L_law_261 : decode code 261 = .ok (.iadd, 1) := by decide +kernel
theorem d_L_law_262 : decode code 262 = .ok (.iaload, 1) := by decide +kernel
theorem d_L_law_263 : decode code 263 = .ok (.invokevirtual 53, 3) := by decide +kernel
theorem d_L_law_266 : decode code 266 = .ok (.if_icmp .eq 182, 3) := by decide +kernel
theorem d_L_law_269 : decode code 269 = .ok (.iconst 0, 1) := by decide +kernel
theorem d_L_law_270 : decode code 270 = .ok (.ireturn, 1) := by decide +kernel
theorem d_L_law_271 : decode code 271 = .ok (.aload_n 1, 1) := by decide +kernel
theorem d_L_law_272 : decode code 272 = .ok (.aload_n 0, 1) := by decide +kernel
theorem d_L_law_273 : decode code 273 = .ok (.iload 4, 2) := by decide +kernel
theorem d_L_law_275 : decode code 275 = .ok (.iconst 1, 1) := by decide +kernel
theorem d_L_law_276 : decode code 276 = .ok (.iadd, 1) := by decide +kernel
theorem d_L_law_277 : decode code 277 = .ok (.iaload, 1) := by decide +kernel
theorem d_L_law_278 : decode code 278 = .ok (.aload_n 0, 1) := by decide +kernel
theorem d_L_law_279 : decode code 279 = .ok (.iload 4, 2) := by decide +kernel
theorem d_L_law_281 : decode code 281 = .ok (.iconst 2, 1) := by decide +kernel
theorem d_L_law_282 : decode code 282 = .ok (.iadd, 1) := by decide +kernel
theorem d_L_law_283 : decode code 283 = .ok (.iaload, 1) := by decide +kernel
theorem d_L_law_284 : decode code 284 = .ok (.invokevirtual 54, 3) := by decide +kernel
theorem d_L_law_287 : decode code 287 = .ok (.aload_n 2, 1) := by decide +kernel
theorem d_L_law_288 : decode code 288 = .ok (.aload_n 0, 1) := by decide +kernel
theorem d_L_law_289 : decode code 289 = .ok (.iload 4, 2) := by decide +kernel
theorem d_L_law_291 : decode code 291 = .ok (.iconst 1, 1) := by decide +kernel
theorem d_L_law_292 : decode code 292 = .ok (.iadd, 1) := by decide +kernel
theorem d_L_law_293 : decode code 293 = .ok (.iaload, 1) := by decide +kernel
theorem d_L_law_294 : decode code 294 = .ok (.aload_n 0, 1) := by decide +kernel
theorem d_L_law_295 : decode code 295 = .ok (.iload 4, 2) := by decide +kernel
theorem d_L_law_297 : decode code 297 = .ok (.iconst 2, 1) := by decide +kernel
theorem d_L_law_298 : decode code 298 = .ok (.iadd, 1) := by decide +kernel
theorem d_L_law_299 : decode code 299 = .ok (.iaload, 1) := by decide +kernel
theorem d_L_law_300 : decode code 300 = .ok (.invokevirtual 58, 3) := by decide +kernel
theorem d_L_law_303 : decode code 303 = .ok (.if_icmp .eq 145, 3) := by decide +kernel
theorem d_L_law_306 : decode code 306 = .ok (.iconst 0, 1) := by decide +kernel
theorem d_L_law_307 : decode code 307 = .ok (.ireturn, 1) := by decide +kernel
theorem d_L_law_308 : decode code 308 = .ok (.aload_n 1, 1) := by decide +kernel
theorem d_L_law_309 : decode code 309 = .ok (.aload_n 0, 1) := by decide +kernel
theorem d_L_law_310 : decode code 310 = .ok (.iload 4, 2) := by decide +kernel
theorem d_L_law_312 : decode code 312 = .ok (.iconst 1, 1) := by decide +kernel
theorem d_L_law_313 : decode code 313 = .ok (.iadd, 1) := by decide +kernel
theorem d_L_law_314 : decode code 314 = .ok (.iaload, 1) := by decide +kernel
theorem d_L_law_315 : decode code 315 = .ok (.i2l, 1) := by decide +kernel
theorem d_L_law_316 : decode code 316 = .ok (.bipush 32, 2) := by decide +kernel
theorem d_L_law_318 : decode code 318 = .ok (.lshl, 1) := by decide +kernel
theorem d_L_law_319 : decode code 319 = .ok (.aload_n 0, 1) := by decide +kernel
theorem d_L_law_320 : decode code 320 = .ok (.iload 4, 2) := by decide +kernel
theorem d_L_law_322 : decode code 322 = .ok (.iconst 2, 1) := by decide +kernel
theorem d_L_law_323 : decode code 323 = .ok (.iadd, 1) := by decide +kernel
theorem d_L_law_324 : decode code 324 = .ok (.iaload, 1) := by decide +kernel
theorem d_L_law_325 : decode code 325 = .ok (.i2l, 1) := by decide +kernel
theorem d_L_law_326 : decode code 326 = .ok (.ldc2_w 21, 3) := by decide +kernel
theorem d_L_law_329 : decode code 329 = .ok (.land, 1) := by decide +kernel
theorem d_L_law_330 : decode code 330 = .ok (.lor, 1) := by decide +kernel
theorem d_L_law_331 : decode code 331 = .ok (.invokevirtual 59, 3) := by decide +kernel
theorem d_L_law_334 : decode code 334 = .ok (.aload_n 2, 1) := by decide +kernel
theorem d_L_law_335 : decode code 335 = .ok (.aload_n 0, 1) := by decide +kernel
theorem d_L_law_336 : decode code 336 = .ok (.iload 4, 2) := by decide +kernel
theorem d_L_law_338 : decode code 338 = .ok (.iconst 1, 1) := by decide +kernel
theorem d_L_law_339 : decode code 339 = .ok (.iadd, 1) := by decide +kernel
theorem d_L_law_340 : decode code 340 = .ok (.iaload, 1) := by decide +kernel
theorem d_L_law_341 : decode code 341 = .ok (.i2l, 1) := by decide +kernel
theorem d_L_law_342 : decode code 342 = .ok (.bipush 32, 2) := by decide +kernel
theorem d_L_law_344 : decode code 344 = .ok (.lshl, 1) := by decide +kernel
theorem d_L_law_345 : decode code 345 = .ok (.aload_n 0, 1) := by decide +kernel
theorem d_L_law_346 : decode code 346 = .ok (.iload 4, 2) := by decide +kernel
theorem d_L_law_348 : decode code 348 = .ok (.iconst 2, 1) := by decide +kernel
theorem d_L_law_349 : decode code 349 = .ok (.iadd, 1) := by decide +kernel
theorem d_L_law_350 : decode code 350 = .ok (.iaload, 1) := by decide +kernel
theorem d_L_law_351 : decode code 351 = .ok (.i2l, 1) := by decide +kernel
theorem d_L_law_352 : decode code 352 = .ok (.ldc2_w 21, 3) := by decide +kernel
theorem d_L_law_355 : decode code 355 = .ok (.land, 1) := by decide +kernel
theorem d_L_law_356 : decode code 356 = .ok (.lor, 1) := by decide +kernel
theorem d_L_law_357 : decode code 357 = .ok (.invokevirtual 63, 3) := by decide +kernel
theorem d_L_law_360 : decode code 360 = .ok (.if_icmp .eq 88, 3) := by decide +kernel
theorem d_L_law_363 : decode code 363 = .ok (.iconst 0, 1) := by decide +kernel
theorem d_L_law_364 : decode code 364 = .ok (.ireturn, 1) := by decide +kernel
theorem d_L_law_365 : decode code 365 = .ok (.aload_n 1, 1) := by decide +kernel
theorem d_L_law_366 : decode code 366 = .ok (.aload_n 0, 1) := by decide +kernel
theorem d_L_law_367 : decode code 367 = .ok (.iload 4, 2) := by decide +kernel
theorem d_L_law_369 : decode code 369 = .ok (.iconst 1, 1) := by decide +kernel
theorem d_L_law_370 : decode code 370 = .ok (.iadd, 1) := by decide +kernel
theorem d_L_law_371 : decode code 371 = .ok (.iaload, 1) := by decide +kernel
theorem d_L_law_372 : decode code 372 = .ok (.i2l, 1) := by decide +kernel
theorem d_L_law_373 : decode code 373 = .ok (.bipush 32, 2) := by decide +kernel
theorem d_L_law_375 : decode code 375 = .ok (.lshl, 1) := by decide +kernel
theorem d_L_law_376 : decode code 376 = .ok (.aload_n 0, 1) := by decide +kernel
theorem d_L_law_377 : decode code 377 = .ok (.iload 4, 2) := by decide +kernel
theorem d_L_law_379 : decode code 379 = .ok (.iconst 2, 1) := by decide +kernel
theorem d_L_law_380 : decode code 380 = .ok (.iadd, 1) := by decide +kernel
theorem d_L_law_381 : decode code 381 = .ok (.iaload, 1) := by decide +kernel
theorem d_L_law_382 : decode code 382 = .ok (.i2l, 1) := by decide +kernel
theorem d_L_law_383 : decode code 383 = .ok (.ldc2_w 21, 3) := by decide +kernel
theorem d_L_law_386 : decode code 386 = .ok (.land, 1) := by decide +kernel
theorem d_L_law_387 : decode code 387 = .ok (.lor, 1) := by decide +kernel
theorem d_L_law_388 : decode code 388 = .ok (.invokevirtual 64, 3) := by decide +kernel
theorem d_L_law_391 : decode code 391 = .ok (.aload_n 2, 1) := by decide +kernel
theorem d_L_law_392 : decode code 392 = .ok (.aload_n 0, 1) := by decide +kernel
theorem d_L_law_393 : decode code 393 = .ok (.iload 4, 2) := by decide +kernel
theorem d_L_law_395 : decode code 395 = .ok (.iconst 1, 1) := by decide +kernel
theorem d_L_law_396 : decode code 396 = .ok (.iadd, 1) := by decide +kernel
theorem d_L_law_397 : decode code 397 = .ok (.iaload, 1) := by decide +kernel
theorem d_L_law_398 : decode code 398 = .ok (.i2l, 1) := by decide +kernel
theorem d_L_law_399 : decode code 399 = .ok (.bipush 32, 2) := by decide +kernel
theorem d_L_law_401 : decode code 401 = .ok (.lshl, 1) := by decide +kernel
theorem d_L_law_402 : decode code 402 = .ok (.aload_n 0, 1) := by decide +kernel
theorem d_L_law_403 : decode code 403 = .ok (.iload 4, 2) := by decide +kernel
theorem d_L_law_405 : decode code 405 = .ok (.iconst 2, 1) := by decide +kernel
theorem d_L_law_406 : decode code 406 = .ok (.iadd, 1) := by decide +kernel
theorem d_L_law_407 : decode code 407 = .ok (.iaload, 1) := by decide +kernel
theorem d_L_law_408 : decode code 408 = .ok (.i2l, 1) := by decide +kernel
theorem d_L_law_409 : decode code 409 = .ok (.ldc2_w 21, 3) := by decide +kernel
theorem d_L_law_412 : decode code 412 = .ok (.land, 1) := by decide +kernel
theorem d_L_law_413 : decode code 413 = .ok (.lor, 1) := by decide +kernel
theorem d_L_law_414 : decode code 414 = .ok (.invokevirtual 67, 3) := by decide +kernel
theorem d_L_law_417 : decode code 417 = .ok (.if_icmp .eq 31, 3) := by decide +kernel
theorem d_L_law_420 : decode code 420 = .ok (.iconst 0, 1) := by decide +kernel
theorem d_L_law_421 : decode code 421 = .ok (.ireturn, 1) := by decide +kernel
theorem d_L_law_422 : decode code 422 = .ok (.aload_n 1, 1) := by decide +kernel
theorem d_L_law_423 : decode code 423 = .ok (.invokevirtual 68, 3) := by decide +kernel
theorem d_L_law_426 : decode code 426 = .ok (.aload_n 2, 1) := by decide +kernel
theorem d_L_law_427 : decode code 427 = .ok (.invokevirtual 71, 3) := by decide +kernel
theorem d_L_law_430 : decode code 430 = .ok (.if_icmp .eq 18, 3) := by decide +kernel
theorem d_L_law_433 : decode code 433 = .ok (.iconst 0, 1) := by decide +kernel
theorem d_L_law_434 : decode code 434 = .ok (.ireturn, 1) := by decide +kernel
theorem d_L_law_435 : decode code 435 = .ok (.aload_n 1, 1) := by decide +kernel
theorem d_L_law_436 : decode code 436 = .ok (.invokevirtual 72, 3) := by decide +kernel
theorem d_L_law_439 : decode code 439 = .ok (.aload_n 2, 1) := by decide +kernel
theorem d_L_law_440 : decode code 440 = .ok (.invokevirtual 75, 3) := by decide +kernel
theorem d_L_law_443 : decode code 443 = .ok (.if_icmp .eq 5, 3) := by decide +kernel
theorem d_L_law_446 : decode code 446 = .ok (.iconst 0, 1) := by decide +kernel
theorem d_L_law_447 : decode code 447 = .ok (.ireturn, 1) := by decide +kernel
theorem d_L_law_448 : decode code 448 = .ok (.iinc 4 3, 3) := by decide +kernel
theorem d_L_law_451 : decode code 451 = .ok (.goto (-428), 3) := by decide +kernel
theorem d_L_law_454 : decode code 454 = .ok (.iconst 1, 1) := by decide +kernel
theorem d_L_law_455 : decode code 455 = .ok (.ireturn, 1) := by decide +kernel
theorem k_L_17 {a : Cond} : xkI (a :: wG) "DeckFrontLaw" 17 y_D_init b_D_init 1 w_D_init 0 := ⟨⟨gG tw_23, ⟨_, rfl⟩, cG tw_1, by decide, by decide, by decide +kernel⟩, cG tw_21, rfl, cG tw_22⟩
theorem k_L_20 {a : Cond} : xkI (a :: wG) "DeckFrontLaw" 20 y_M_init b_M_init 1 w_M_init 0 := ⟨⟨gG tw_747, ⟨_, rfl⟩, cG tw_7, by decide, by decide, by decide +kernel⟩, cG tw_745, rfl, cG tw_746⟩
theorem k_L_23 {a : Cond} : xkV (a :: wG) "DeckFrontLaw" 23 "DeckFront" y_D_write b_D_write 3 (Option.some Jvm.ClassFile.FieldType.boolean) w_D_write 1 := ⟨⟨gG tw_150, ⟨_, rfl⟩, cG tw_1, by decide, by decide, by decide +kernel⟩, cG tw_147, cG tw_148, fun _ _ h => h _ (cG tw_149)⟩
theorem k_L_27 {a : Cond} : xkV (a :: wG) "DeckFrontLaw" 27 "DeckFrontModel" y_M_write b_M_write 6 (Option.some Jvm.ClassFile.FieldType.boolean) w_M_write 1 := ⟨⟨gG tw_867, ⟨_, rfl⟩, cG tw_7, by decide, by decide, by decide +kernel⟩, cG tw_864, cG tw_865, fun _ _ h => h _ (cG tw_866)⟩
theorem k_L_33 {a : Cond} : xkV (a :: wG) "DeckFrontLaw" 33 "DeckFrontModel" y_M_card b_M_card 3 (Option.some Jvm.ClassFile.FieldType.int) w_M_card 0 := ⟨⟨gG tw_880, ⟨_, rfl⟩, cG tw_7, by decide, by decide, by decide +kernel⟩, cG tw_877, cG tw_878, fun _ _ h => h _ (cG tw_879)⟩
theorem k_L_34 {a : Cond} : xkV (a :: wG) "DeckFrontLaw" 34 "DeckFrontModel" y_M_thrown b_M_thrown 1 (Option.some Jvm.ClassFile.FieldType.int) w_M_thrown 0 := ⟨⟨gG tw_863, ⟨_, rfl⟩, cG tw_7, by decide, by decide, by decide +kernel⟩, cG tw_860, cG tw_861, fun _ _ h => h _ (cG tw_862)⟩
theorem k_L_37 {a : Cond} : xkV (a :: wG) "DeckFrontLaw" 37 "DeckFront" y_D_clear b_D_clear 1 (Option.none : Option Jvm.ClassFile.FieldType) w_D_clear 0 := ⟨⟨gG tw_255, ⟨_, rfl⟩, cG tw_1, by decide, by decide, by decide +kernel⟩, cG tw_252, cG tw_253, fun _ _ h => h _ (cG tw_254)⟩
theorem k_L_40 {a : Cond} : xkV (a :: wG) "DeckFrontLaw" 40 "DeckFrontModel" y_M_clear b_M_clear 1 (Option.none : Option Jvm.ClassFile.FieldType) w_M_clear 0 := ⟨⟨gG tw_896, ⟨_, rfl⟩, cG tw_7, by decide, by decide, by decide +kernel⟩, cG tw_893, cG tw_894, fun _ _ h => h _ (cG tw_895)⟩
theorem k_L_41 {a : Cond} : xkV (a :: wG) "DeckFrontLaw" 41 "DeckFront" y_D_statements b_D_statements 1 (Option.some Jvm.ClassFile.FieldType.int) w_D_statements 0 := ⟨⟨gG tw_259, ⟨_, rfl⟩, cG tw_1, by decide, by decide, by decide +kernel⟩, cG tw_256, cG tw_257, fun _ _ h => h _ (cG tw_258)⟩
theorem k_L_44 {a : Cond} : xkV (a :: wG) "DeckFrontLaw" 44 "DeckFrontModel" y_M_statements b_M_statements 1 (Option.some Jvm.ClassFile.FieldType.int) w_M_statements 0 := ⟨⟨gG tw_900, ⟨_, rfl⟩, cG tw_7, by decide, by decide, by decide +kernel⟩, cG tw_897, cG tw_898, fun _ _ h => h _ (cG tw_899)⟩
theorem k_L_45 {a : Cond} : xkV (a :: wG) "DeckFrontLaw" 45 "DeckFront" y_D_label b_D_label 3 (Option.some Jvm.ClassFile.FieldType.int) w_D_label 1 := ⟨⟨gG tw_263, ⟨_, rfl⟩, cG tw_1, by decide, by decide, by decide +kernel⟩, cG tw_260, cG tw_261, fun _ _ h => h _ (cG tw_262)⟩
theorem k_L_49 {a : Cond} : xkV (a :: wG) "DeckFrontLaw" 49 "DeckFrontModel" y_M_label b_M_label 2 (Option.some Jvm.ClassFile.FieldType.int) w_M_label 1 := ⟨⟨gG tw_904, ⟨_, rfl⟩, cG tw_7, by decide, by decide, by decide +kernel⟩, cG tw_901, cG tw_902, fun _ _ h => h _ (cG tw_903)⟩
theorem k_L_50 {a : Cond} : xkV (a :: wG) "DeckFrontLaw" 50 "DeckFront" y_D_what b_D_what 3 (Option.some Jvm.ClassFile.FieldType.int) w_D_what 1 := ⟨⟨gG tw_271, ⟨_, rfl⟩, cG tw_1, by decide, by decide, by decide +kernel⟩, cG tw_268, cG tw_269, fun _ _ h => h _ (cG tw_270)⟩
theorem k_L_53 {a : Cond} : xkV (a :: wG) "DeckFrontLaw" 53 "DeckFrontModel" y_M_what b_M_what 2 (Option.some Jvm.ClassFile.FieldType.int) w_M_what 1 := ⟨⟨gG tw_912, ⟨_, rfl⟩, cG tw_7, by decide, by decide, by decide +kernel⟩, cG tw_909, cG tw_910, fun _ _ h => h _ (cG tw_911)⟩
theorem k_L_54 {a : Cond} : xkV (a :: wG) "DeckFrontLaw" 54 "DeckFront" y_D_shown b_D_shown 4 (Option.some Jvm.ClassFile.FieldType.int) w_D_shown 2 := ⟨⟨gG tw_275, ⟨_, rfl⟩, cG tw_1, by decide, by decide, by decide +kernel⟩, cG tw_272, cG tw_273, fun _ _ h => h _ (cG tw_274)⟩
theorem k_L_58 {a : Cond} : xkV (a :: wG) "DeckFrontLaw" 58 "DeckFrontModel" y_M_shown b_M_shown 4 (Option.some Jvm.ClassFile.FieldType.int) w_M_shown 2 := ⟨⟨gG tw_1100, ⟨_, rfl⟩, cG tw_7, by decide, by decide, by decide +kernel⟩, cG tw_1097, cG tw_1098, fun _ _ h => h _ (cG tw_1099)⟩
theorem k_L_59 {a : Cond} : xkV (a :: wG) "DeckFrontLaw" 59 "DeckFront" y_D_kind b_D_kind 5 (Option.some Jvm.ClassFile.FieldType.int) w_D_kind 1 := ⟨⟨gG tw_285, ⟨_, rfl⟩, cG tw_1, by decide, by decide, by decide +kernel⟩, cG tw_282, cG tw_283, fun _ _ h => h _ (cG tw_284)⟩
theorem k_L_63 {a : Cond} : xkV (a :: wG) "DeckFrontLaw" 63 "DeckFrontModel" y_M_kind b_M_kind 10 (Option.some Jvm.ClassFile.FieldType.int) w_M_kind 1 := ⟨⟨gG tw_1104, ⟨_, rfl⟩, cG tw_7, by decide, by decide, by decide +kernel⟩, cG tw_1101, cG tw_1102, fun _ _ h => h _ (cG tw_1103)⟩
theorem k_L_64 {a : Cond} : xkV (a :: wG) "DeckFrontLaw" 64 "DeckFront" y_D_type b_D_type 5 (Option.some Jvm.ClassFile.FieldType.int) w_D_type 1 := ⟨⟨gG tw_310, ⟨_, rfl⟩, cG tw_1, by decide, by decide, by decide +kernel⟩, cG tw_307, cG tw_308, fun _ _ h => h _ (cG tw_309)⟩
theorem k_L_67 {a : Cond} : xkV (a :: wG) "DeckFrontLaw" 67 "DeckFrontModel" y_M_type b_M_type 8 (Option.some Jvm.ClassFile.FieldType.int) w_M_type 1 := ⟨⟨gG tw_1111, ⟨_, rfl⟩, cG tw_7, by decide, by decide, by decide +kernel⟩, cG tw_1108, cG tw_1109, fun _ _ h => h _ (cG tw_1110)⟩
theorem k_L_68 {a : Cond} : xkV (a :: wG) "DeckFrontLaw" 68 "DeckFront" y_D_fault b_D_fault 1 (Option.some Jvm.ClassFile.FieldType.int) w_D_fault 0 := ⟨⟨gG tw_328, ⟨_, rfl⟩, cG tw_1, by decide, by decide, by decide +kernel⟩, cG tw_325, cG tw_326, fun _ _ h => h _ (cG tw_327)⟩
theorem k_L_71 {a : Cond} : xkV (a :: wG) "DeckFrontLaw" 71 "DeckFrontModel" y_M_fault b_M_fault 1 (Option.some Jvm.ClassFile.FieldType.int) w_M_fault 0 := ⟨⟨gG tw_1117, ⟨_, rfl⟩, cG tw_7, by decide, by decide, by decide +kernel⟩, cG tw_1114, cG tw_1115, fun _ _ h => h _ (cG tw_1116)⟩
theorem k_L_72 {a : Cond} : xkV (a :: wG) "DeckFrontLaw" 72 "DeckFront" y_D_faultAt b_D_faultAt 1 (Option.some Jvm.ClassFile.FieldType.int) w_D_faultAt 0 := ⟨⟨gG tw_392, ⟨_, rfl⟩, cG tw_1, by decide, by decide, by decide +kernel⟩, cG tw_389, cG tw_390, fun _ _ h => h _ (cG tw_391)⟩
theorem k_L_75 {a : Cond} : xkV (a :: wG) "DeckFrontLaw" 75 "DeckFrontModel" y_M_faultAt b_M_faultAt 2 (Option.some Jvm.ClassFile.FieldType.int) w_M_faultAt 0 := ⟨⟨gG tw_1141, ⟨_, rfl⟩, cG tw_7, by decide, by decide, by decide +kernel⟩, cG tw_1138, cG tw_1139, fun _ _ h => h _ (cG tw_1140)⟩
abbrev ZS : Type := XS × MS × (Nat → Int64)
abbrev wLaw : List Cond := Cond.initialized "DeckFrontLaw" :: wG
def wdO (oa : Nat) (cs : Nat → ClassId) (g : Nat → Int64) : va_W := [(oa, .inl (cs 2, 1, .inr (.inl g)))]
def wdL (ad to : Nat → Nat) (ta : Nat → Nat → Nat) (o : Nat) (a : Nat → Nat) (oa : Nat) (cs : Nat → ClassId) (u : ZS) : va_W := wdM o a cs u.2.1 ++ (wdO oa cs u.2.2 ++ wdX ad to ta cs u.1)
section
variable (ad to : Nat → Nat) (ta : Nat → Nat → Nat) (o : Nat) (a : Nat → Nat) (oa : Nat) (cs : Nat → ClassId) (x : XS) (m : MS) (g : Nat → Int64)
theorem eL_M : (wdL ad to ta o a oa cs (x, m, g))[0]? = some (o, .inr (5, fsM a m)) := rfl
theorem eL_o : (wdL ad to ta o a oa cs (x, m, g))[24]? = some (oa, .inl (cs 2, 1, .inr (.inl g))) := rfl
theorem eL_X : (wdL ad to ta o a oa cs (x, m, g))[25]? = some (ad 0, .inr (4, [.ref (ad 1), .ref (ad 3), .ref (ad 5)])) := rfl
theorem lensLX : xLens (wdL ad to ta o a oa cs) (x, m, g) (wdX ad to ta cs) x (fun z => (z, m, g)) := ⟨wdM o a cs m ++ wdO oa cs g, by show (wdM o a cs m ++ (wdO oa cs g ++ wdX ad to ta cs x)).Perm _; rw [List.append_assoc], fun z => by show List.Perm _ (wdM o a cs m ++ (wdO oa cs g ++ wdX ad to ta cs z)); rw [List.append_assoc]⟩
theorem lensLM : xLens (wdL ad to ta o a oa cs) (x, m, g) (wdM o a cs) m (fun z => (x, z, g)) := ⟨wdO oa cs g ++ wdX ad to ta cs x, List.perm_append_comm, fun _ => List.perm_append_comm⟩
def wdLC (ad to : Nat → Nat) (ta : Nat → Nat → Nat) (oa : Nat) (cs : Nat → ClassId) (u : XS × (Nat → Int64)) : va_W := wdO oa cs u.2 ++ wdX ad to ta cs u.1
theorem lensLC : xLens (wdL ad to ta o a oa cs) (x, m, g) (wdLC ad to ta oa cs) (x, g) (fun z => (z.1, m, z.2)) := ⟨wdM o a cs m, List.Perm.refl _, fun _ => List.Perm.refl _⟩
end
/-- the law's end -/
def qLaw (b : Nat) : List Frame → Array Value → State → (Nat → Prop) → State → Prop := fun below args s A t => args = #[Value.ref b] → (∀ q, A q → s.heap.size ≤ q) → lw_Z below args s t
section RLw
variable {S : Type} {l : Launch} {D : va_G} {cl : List vw_C} {tys : List (ClassId × FieldType)} {Ev : (Nat → Prop) → State → Prop} {own : String} {cc : ByteArray} {nL : Nat} {Ts : List Cond} {rm : Room} {wd : S → va_W} {Qf : List Frame → Array Value → State → (Nat → Prop) → State → Prop} {kc ks : Nat} {pc : Nat} {lv : List (Nat × Value)} {st : List Value} {u : S} {b L : Nat} {xs : Nat → Int32} {rr : Option FieldType}
theorem x_lawret (hc : kc ≤ 601024) (hs : ks ≤ 7293033) (hd : decode code pc = .ok (.ireturn, 1)) : RRq l D cl tys Ev own code nL Ts room_1 ret wd (qLaw b) kc ks pc lv [.int 1] u := by
  intro p e s m args below meth c A H locs ls hX hP hD hS hl
  obtain ⟨hx, hb, -, -, -, -, -, hlk, hr, -⟩ := hX
  by_cases h : args = #[Value.ref b] ∧ ∀ q, A q → s.heap.size ≤ q
  · obtain ⟨rfl, hA⟩ := h
    refine va_forget (fun q hq => hA _ (hS.2.2 q hq)) ?_
    refine W.widen (k := 601024) (n := 7293033) hc hs ?_
    intro T hT X
    obtain ⟨t, a1, b1⟩ := lw_ret (l := l) (e := e) hx hb hr hlk (ls := ls) hd T hT X
    exact ⟨t, a1, fun _ _ => b1⟩
  · intro T hT X
    exact ⟨_, Steps.refl _, fun h1 h2 => absurd ⟨h1, h2⟩ h⟩
theorem x_sld {i : Int32} (B : ∀ (A : Nat → Prop) (s : State), Ev A s → va_X b L xs s s.heap ∧ b < s.heap.size ∧ ¬ A b) (hin : vp_in i L) (hd : decode cc pc = .ok (.iaload, 1)) (kk : RRq l D cl tys Ev own cc nL Ts rm rr wd Qf kc ks (pc + 1) lv (.int (xs i.toNatClampNeg) :: st) u) : RRq l D cl tys Ev own cc nL Ts rm rr wd Qf kc ks pc lv (.int i :: .ref b :: st) u := by
  intro p e s m args below meth c A H locs ls hX hP hD hS hl
  obtain ⟨hx, hb, hml, hown, hts, hK, hEv, -⟩ := id hX
  obtain ⟨h1, h2, h3⟩ := B A s hEv
  exact va_sld hx hb h1 h2 h3 hS hin hd (kk p e s m args below meth c A H locs ls hX hP hD hS hl)
theorem x_slen (B : ∀ (A : Nat → Prop) (s : State), Ev A s → va_X b L xs s s.heap ∧ b < s.heap.size ∧ ¬ A b) (hd : decode cc pc = .ok (.arraylength, 1)) (kk : RRq l D cl tys Ev own cc nL Ts rm rr wd Qf kc ks (pc + 1) lv (.int (nI L) :: st) u) : RRq l D cl tys Ev own cc nL Ts rm rr wd Qf kc ks pc lv (.ref b :: st) u := by
  intro p e s m args below meth c A H locs ls hX hP hD hS hl
  obtain ⟨hx, hb, hml, hown, hts, hK, hEv, -⟩ := id hX
  obtain ⟨h1, h2, h3⟩ := B A s hEv
  exact va_slen hx hb h1 h2 h3 hS hd (kk p e s m args below meth c A H locs ls hX hP hD hS hl)
theorem rmL_ok {a nz kc ks : Nat} (h : a ≤ 1000) (hn : nz ≤ 45) (h1 : kc ≤ 601024) (h2 : ks ≤ 7293033) : xRm room_1 (rmD a) nz 0 0 kc ks := by
  refine ⟨⟨rfl, rfl⟩, ⟨?_, ?_⟩, h1, h2⟩
  · show a + 1 ≤ 2048
    omega
  · show 8 + (nz + 11) + 64 * a ≤ 84000
    omega
end RLw
theorem rmL_okT {a nz kc ks : Nat} (h : a ≤ 1000) (hn : nz ≤ 45) (h1 : kc + 1 ≤ 601024) (h2 : ks + 6 ≤ 7293033) : xRm room_1 (rmT a) nz 1 6 kc ks := by
  refine ⟨⟨rfl, rfl⟩, ⟨?_, ?_⟩, h1, h2⟩
  · show a + 1 ≤ 2048
    omega
  · show 8 + (nz + 11) + 64 * a ≤ 84000
    omega
/-- card() of the law, with its three ends -/
def P_L_card (post : Int32 → XS × (Nat → Int64) → Prop) (u : XS × (Nat → Int64)) : Prop := P_D_card (fun r x1 => post 0 (x1, vp_updL u.2 0 r.toInt64)) u.1 ∨ P_D_cardT (-2) (fun x1 => post 1 (x1, u.2)) u.1 ∨ P_D_cardT (-3) (fun x1 => post 2 (x1, u.2)) u.1

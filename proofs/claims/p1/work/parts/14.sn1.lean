abbrev y_S_recognise : MethodName := ⟨"DeckFront$Statement", "recognise", "()V"⟩
abbrev b_S_recognise : ByteArray := prog_4_method_2_code
abbrev w_S_recognise : List Cond := (Jvm.Cond.code ({ cls := "DeckFront$Statement", name := "recognise", desc := "()V" } : Jvm.MethodName) prog_4_method_2_code (1 : Nat) (Option.none : Option Jvm.ClassFile.FieldType)) :: wG
theorem d_S_recognise_0 : decode b_S_recognise 0 = .ok (.aload_n 0, 1) := by decide +kernel
theorem d_S_recognise_1 : decode b_S_recognise 1 = .ok (.aload_n 0, 1) := by decide +kernel
theorem d_S_recognise_2 : decode b_S_recognise 2 = .ok (.getfield 9, 3) := by decide +kernel
theorem d_S_recognise_5 : decode b_S_recognise 5 = .ok (.putfield 15, 3) := by decide +kernel
theorem d_S_recognise_8 : decode b_S_recognise 8 = .ok (.aload_n 0, 1) := by decide +kernel
theorem d_S_recognise_9 : decode b_S_recognise 9 = .ok (.aload_n 0, 1) := by decide +kernel
theorem d_S_recognise_10 : decode b_S_recognise 10 = .ok (.iconst 0, 1) := by decide +kernel
theorem d_S_recognise_11 : decode b_S_recognise 11 = .ok (.invokevirtual 18, 3) := by decide +kernel
theorem d_S_recognise_14 : decode b_S_recognise 14 = .ok (.putfield 22, 3) := by decide +kernel
theorem d_S_recognise_17 : decode b_S_recognise 17 = .ok (.aload_n 0, 1) := by decide +kernel
theorem d_S_recognise_18 : decode b_S_recognise 18 = .ok (.getfield 22, 3) := by decide +kernel
theorem d_S_recognise_21 : decode b_S_recognise 21 = .ok (.ifCond .ne 49, 3) := by decide +kernel
theorem d_S_recognise_24 : decode b_S_recognise 24 = .ok (.aload_n 0, 1) := by decide +kernel
theorem d_S_recognise_25 : decode b_S_recognise 25 = .ok (.ldc 25, 2) := by decide +kernel
theorem d_S_recognise_27 : decode b_S_recognise 27 = .ok (.invokevirtual 27, 3) := by decide +kernel
theorem d_S_recognise_30 : decode b_S_recognise 30 = .ok (.ifCond .eq 40, 3) := by decide +kernel
theorem d_S_recognise_33 : decode b_S_recognise 33 = .ok (.aload_n 0, 1) := by decide +kernel
theorem d_S_recognise_34 : decode b_S_recognise 34 = .ok (.iconst 1, 1) := by decide +kernel
theorem d_S_recognise_35 : decode b_S_recognise 35 = .ok (.iconst 1, 1) := by decide +kernel
theorem d_S_recognise_36 : decode b_S_recognise 36 = .ok (.invokevirtual 31, 3) := by decide +kernel
theorem d_S_recognise_39 : decode b_S_recognise 39 = .ok (.ifCond .eq 31, 3) := by decide +kernel
theorem d_S_recognise_42 : decode b_S_recognise 42 = .ok (.aload_n 0, 1) := by decide +kernel
theorem d_S_recognise_43 : decode b_S_recognise 43 = .ok (.ldc 35, 2) := by decide +kernel
theorem d_S_recognise_45 : decode b_S_recognise 45 = .ok (.invokevirtual 27, 3) := by decide +kernel
theorem d_S_recognise_48 : decode b_S_recognise 48 = .ok (.ifCond .eq 22, 3) := by decide +kernel
theorem d_S_recognise_51 : decode b_S_recognise 51 = .ok (.aload_n 0, 1) := by decide +kernel
theorem d_S_recognise_52 : decode b_S_recognise 52 = .ok (.aload_n 0, 1) := by decide +kernel
theorem d_S_recognise_53 : decode b_S_recognise 53 = .ok (.getfield 15, 3) := by decide +kernel
theorem d_S_recognise_56 : decode b_S_recognise 56 = .ok (.invokevirtual 18, 3) := by decide +kernel
theorem d_S_recognise_59 : decode b_S_recognise 59 = .ok (.invokestatic 37, 3) := by decide +kernel
theorem d_S_recognise_62 : decode b_S_recognise 62 = .ok (.ifCond .eq 8, 3) := by decide +kernel
theorem d_S_recognise_65 : decode b_S_recognise 65 = .ok (.aload_n 0, 1) := by decide +kernel
theorem d_S_recognise_66 : decode b_S_recognise 66 = .ok (.iconst 4, 1) := by decide +kernel
theorem d_S_recognise_67 : decode b_S_recognise 67 = .ok (.putfield 22, 3) := by decide +kernel
theorem d_S_recognise_70 : decode b_S_recognise 70 = .ok (.aload_n 0, 1) := by decide +kernel
theorem d_S_recognise_71 : decode b_S_recognise 71 = .ok (.getfield 22, 3) := by decide +kernel
theorem d_S_recognise_74 : decode b_S_recognise 74 = .ok (.ifCond .ne 8, 3) := by decide +kernel
theorem d_S_recognise_77 : decode b_S_recognise 77 = .ok (.aload_n 0, 1) := by decide +kernel
theorem d_S_recognise_78 : decode b_S_recognise 78 = .ok (.iconst 0, 1) := by decide +kernel
theorem d_S_recognise_79 : decode b_S_recognise 79 = .ok (.invokevirtual 41, 3) := by decide +kernel
theorem d_S_recognise_82 : decode b_S_recognise 82 = .ok (.return_, 1) := by decide +kernel
abbrev y_S_mayStandInIf : MethodName := ⟨"DeckFront$Statement", "mayStandInIf", "(I)Z"⟩
abbrev b_S_mayStandInIf : ByteArray := prog_4_method_3_code
abbrev w_S_mayStandInIf : List Cond := (Jvm.Cond.code ({ cls := "DeckFront$Statement", name := "mayStandInIf", desc := "(I)Z" } : Jvm.MethodName) prog_4_method_3_code (1 : Nat) (Option.some Jvm.ClassFile.FieldType.boolean)) :: wG
theorem d_S_mayStandInIf_0 : decode b_S_mayStandInIf 0 = .ok (.iload_n 0, 1) := by decide +kernel
theorem d_S_mayStandInIf_1 : decode b_S_mayStandInIf 1 = .ok (.iconst 2, 1) := by decide +kernel
theorem d_S_mayStandInIf_2 : decode b_S_mayStandInIf 2 = .ok (.if_icmp .eq 21, 3) := by decide +kernel
theorem d_S_mayStandInIf_5 : decode b_S_mayStandInIf 5 = .ok (.iload_n 0, 1) := by decide +kernel
theorem d_S_mayStandInIf_6 : decode b_S_mayStandInIf 6 = .ok (.bipush 9, 2) := by decide +kernel
theorem d_S_mayStandInIf_8 : decode b_S_mayStandInIf 8 = .ok (.if_icmp .lt 9, 3) := by decide +kernel
theorem d_S_mayStandInIf_11 : decode b_S_mayStandInIf 11 = .ok (.iload_n 0, 1) := by decide +kernel
theorem d_S_mayStandInIf_12 : decode b_S_mayStandInIf 12 = .ok (.bipush 13, 2) := by decide +kernel
theorem d_S_mayStandInIf_14 : decode b_S_mayStandInIf 14 = .ok (.if_icmp .le 9, 3) := by decide +kernel
theorem d_S_mayStandInIf_17 : decode b_S_mayStandInIf 17 = .ok (.iload_n 0, 1) := by decide +kernel
theorem d_S_mayStandInIf_18 : decode b_S_mayStandInIf 18 = .ok (.bipush 17, 2) := by decide +kernel
theorem d_S_mayStandInIf_20 : decode b_S_mayStandInIf 20 = .ok (.if_icmp .ne 7, 3) := by decide +kernel
theorem d_S_mayStandInIf_23 : decode b_S_mayStandInIf 23 = .ok (.iconst 1, 1) := by decide +kernel
theorem d_S_mayStandInIf_24 : decode b_S_mayStandInIf 24 = .ok (.goto 4, 3) := by decide +kernel
theorem d_S_mayStandInIf_27 : decode b_S_mayStandInIf 27 = .ok (.iconst 0, 1) := by decide +kernel
theorem d_S_mayStandInIf_28 : decode b_S_mayStandInIf 28 = .ok (.ireturn, 1) := by decide +kernel
abbrev y_S_firstThatFits : MethodName := ⟨"DeckFront$Statement", "firstThatFits", "(I)I"⟩
abbrev b_S_firstThatFits : ByteArray := prog_4_method_4_code
abbrev w_S_firstThatFits : List Cond := (Jvm.Cond.code ({ cls := "DeckFront$Statement", name := "firstThatFits", desc := "(I)I" } : Jvm.MethodName) prog_4_method_4_code (3 : Nat) (Option.some Jvm.ClassFile.FieldType.int)) :: wG
theorem d_S_firstThatFits_0 : decode b_S_firstThatFits 0 = .ok (.iconst 1, 1) := by decide +kernel
theorem d_S_firstThatFits_1 : decode b_S_firstThatFits 1 = .ok (.istore_n 2, 1) := by decide +kernel
theorem d_S_firstThatFits_2 : decode b_S_firstThatFits 2 = .ok (.iload_n 2, 1) := by decide +kernel
theorem d_S_firstThatFits_3 : decode b_S_firstThatFits 3 = .ok (.bipush 17, 2) := by decide +kernel
theorem d_S_firstThatFits_5 : decode b_S_firstThatFits 5 = .ok (.if_icmp .gt 35, 3) := by decide +kernel
theorem d_S_firstThatFits_8 : decode b_S_firstThatFits 8 = .ok (.aload_n 0, 1) := by decide +kernel
theorem d_S_firstThatFits_9 : decode b_S_firstThatFits 9 = .ok (.iload_n 1, 1) := by decide +kernel
theorem d_S_firstThatFits_10 : decode b_S_firstThatFits 10 = .ok (.invokevirtual 41, 3) := by decide +kernel
theorem d_S_firstThatFits_13 : decode b_S_firstThatFits 13 = .ok (.aload_n 0, 1) := by decide +kernel
theorem d_S_firstThatFits_14 : decode b_S_firstThatFits 14 = .ok (.iload_n 2, 1) := by decide +kernel
theorem d_S_firstThatFits_15 : decode b_S_firstThatFits 15 = .ok (.invokevirtual 45, 3) := by decide +kernel
theorem d_S_firstThatFits_18 : decode b_S_firstThatFits 18 = .ok (.ifCond .eq 16, 3) := by decide +kernel
theorem d_S_firstThatFits_21 : decode b_S_firstThatFits 21 = .ok (.aload_n 0, 1) := by decide +kernel
theorem d_S_firstThatFits_22 : decode b_S_firstThatFits 22 = .ok (.getfield 15, 3) := by decide +kernel
theorem d_S_firstThatFits_25 : decode b_S_firstThatFits 25 = .ok (.aload_n 0, 1) := by decide +kernel
theorem d_S_firstThatFits_26 : decode b_S_firstThatFits 26 = .ok (.getfield 9, 3) := by decide +kernel
theorem d_S_firstThatFits_29 : decode b_S_firstThatFits 29 = .ok (.if_icmp .ne 5, 3) := by decide +kernel
theorem d_S_firstThatFits_32 : decode b_S_firstThatFits 32 = .ok (.iload_n 2, 1) := by decide +kernel
theorem d_S_firstThatFits_33 : decode b_S_firstThatFits 33 = .ok (.ireturn, 1) := by decide +kernel
theorem d_S_firstThatFits_34 : decode b_S_firstThatFits 34 = .ok (.iinc 2 1, 3) := by decide +kernel
theorem d_S_firstThatFits_37 : decode b_S_firstThatFits 37 = .ok (.goto (-35), 3) := by decide +kernel
theorem d_S_firstThatFits_40 : decode b_S_firstThatFits 40 = .ok (.aload_n 0, 1) := by decide +kernel
theorem d_S_firstThatFits_41 : decode b_S_firstThatFits 41 = .ok (.iload_n 1, 1) := by decide +kernel
theorem d_S_firstThatFits_42 : decode b_S_firstThatFits 42 = .ok (.invokevirtual 41, 3) := by decide +kernel
theorem d_S_firstThatFits_45 : decode b_S_firstThatFits 45 = .ok (.iconst 0, 1) := by decide +kernel
theorem d_S_firstThatFits_46 : decode b_S_firstThatFits 46 = .ok (.ireturn, 1) := by decide +kernel
abbrev y_S_fits : MethodName := ⟨"DeckFront$Statement", "fits", "(I)Z"⟩
abbrev b_S_fits : ByteArray := prog_4_method_5_code
abbrev w_S_fits : List Cond := (Jvm.Cond.code ({ cls := "DeckFront$Statement", name := "fits", desc := "(I)Z" } : Jvm.MethodName) prog_4_method_5_code (2 : Nat) (Option.some Jvm.ClassFile.FieldType.boolean)) :: wG
theorem d_S_fits_0 : decode b_S_fits 0 = .ok (.iload_n 1, 1) := by decide +kernel
theorem d_S_fits_1 : decode b_S_fits 1 = .ok (.tableswitch 521 1 17 #[83, 177, 210, 521, 243, 276, 283, 290, 297, 322, 362, 369, 376, 399, 406, 448, 472], 83) := by decide +kernel
theorem d_S_fits_84 : decode b_S_fits 84 = .ok (.aload_n 0, 1) := by decide +kernel
theorem d_S_fits_85 : decode b_S_fits 85 = .ok (.ldc 48, 2) := by decide +kernel
theorem d_S_fits_87 : decode b_S_fits 87 = .ok (.invokevirtual 27, 3) := by decide +kernel
theorem d_S_fits_90 : decode b_S_fits 90 = .ok (.ifCond .eq 86, 3) := by decide +kernel
theorem d_S_fits_93 : decode b_S_fits 93 = .ok (.aload_n 0, 1) := by decide +kernel
theorem d_S_fits_94 : decode b_S_fits 94 = .ok (.iconst 5, 1) := by decide +kernel
theorem d_S_fits_95 : decode b_S_fits 95 = .ok (.bipush 6, 2) := by decide +kernel
theorem d_S_fits_97 : decode b_S_fits 97 = .ok (.invokevirtual 50, 3) := by decide +kernel
theorem d_S_fits_100 : decode b_S_fits 100 = .ok (.ifCond .eq 76, 3) := by decide +kernel
theorem d_S_fits_103 : decode b_S_fits 103 = .ok (.aload_n 0, 1) := by decide +kernel
theorem d_S_fits_104 : decode b_S_fits 104 = .ok (.invokevirtual 53, 3) := by decide +kernel
theorem d_S_fits_107 : decode b_S_fits 107 = .ok (.ifCond .eq 69, 3) := by decide +kernel
theorem d_S_fits_110 : decode b_S_fits 110 = .ok (.aload_n 0, 1) := by decide +kernel
theorem d_S_fits_111 : decode b_S_fits 111 = .ok (.iconst 4, 1) := by decide +kernel
theorem d_S_fits_112 : decode b_S_fits 112 = .ok (.invokevirtual 57, 3) := by decide +kernel
theorem d_S_fits_115 : decode b_S_fits 115 = .ok (.ifCond .eq 61, 3) := by decide +kernel
theorem d_S_fits_118 : decode b_S_fits 118 = .ok (.aload_n 0, 1) := by decide +kernel
theorem d_S_fits_119 : decode b_S_fits 119 = .ok (.ldc 60, 2) := by decide +kernel
theorem d_S_fits_121 : decode b_S_fits 121 = .ok (.invokevirtual 27, 3) := by decide +kernel
theorem d_S_fits_124 : decode b_S_fits 124 = .ok (.ifCond .eq 52, 3) := by decide +kernel
theorem d_S_fits_127 : decode b_S_fits 127 = .ok (.aload_n 0, 1) := by decide +kernel
theorem d_S_fits_128 : decode b_S_fits 128 = .ok (.iconst 1, 1) := by decide +kernel
theorem d_S_fits_129 : decode b_S_fits 129 = .ok (.iconst 0, 1) := by decide +kernel
theorem d_S_fits_130 : decode b_S_fits 130 = .ok (.invokevirtual 31, 3) := by decide +kernel
theorem d_S_fits_133 : decode b_S_fits 133 = .ok (.ifCond .eq 43, 3) := by decide +kernel
theorem d_S_fits_136 : decode b_S_fits 136 = .ok (.aload_n 0, 1) := by decide +kernel
theorem d_S_fits_137 : decode b_S_fits 137 = .ok (.ldc 62, 2) := by decide +kernel
theorem d_S_fits_139 : decode b_S_fits 139 = .ok (.invokevirtual 27, 3) := by decide +kernel
theorem d_S_fits_142 : decode b_S_fits 142 = .ok (.ifCond .eq 34, 3) := by decide +kernel
theorem d_S_fits_145 : decode b_S_fits 145 = .ok (.aload_n 0, 1) := by decide +kernel
theorem d_S_fits_146 : decode b_S_fits 146 = .ok (.iconst 1, 1) := by decide +kernel
theorem d_S_fits_147 : decode b_S_fits 147 = .ok (.iconst 0, 1) := by decide +kernel
theorem d_S_fits_148 : decode b_S_fits 148 = .ok (.invokevirtual 31, 3) := by decide +kernel
theorem d_S_fits_151 : decode b_S_fits 151 = .ok (.ifCond .eq 25, 3) := by decide +kernel
theorem d_S_fits_154 : decode b_S_fits 154 = .ok (.aload_n 0, 1) := by decide +kernel
theorem d_S_fits_155 : decode b_S_fits 155 = .ok (.ldc 62, 2) := by decide +kernel
theorem d_S_fits_157 : decode b_S_fits 157 = .ok (.invokevirtual 27, 3) := by decide +kernel
theorem d_S_fits_160 : decode b_S_fits 160 = .ok (.ifCond .eq 12, 3) := by decide +kernel
theorem d_S_fits_163 : decode b_S_fits 163 = .ok (.aload_n 0, 1) := by decide +kernel
theorem d_S_fits_164 : decode b_S_fits 164 = .ok (.iconst 1, 1) := by decide +kernel
theorem d_S_fits_165 : decode b_S_fits 165 = .ok (.iconst 0, 1) := by decide +kernel
theorem d_S_fits_166 : decode b_S_fits 166 = .ok (.invokevirtual 31, 3) := by decide +kernel
theorem d_S_fits_169 : decode b_S_fits 169 = .ok (.ifCond .eq 7, 3) := by decide +kernel
theorem d_S_fits_172 : decode b_S_fits 172 = .ok (.iconst 1, 1) := by decide +kernel
theorem d_S_fits_173 : decode b_S_fits 173 = .ok (.goto 4, 3) := by decide +kernel
theorem d_S_fits_176 : decode b_S_fits 176 = .ok (.iconst 0, 1) := by decide +kernel
theorem d_S_fits_177 : decode b_S_fits 177 = .ok (.ireturn, 1) := by decide +kernel
theorem d_S_fits_178 : decode b_S_fits 178 = .ok (.aload_n 0, 1) := by decide +kernel
theorem d_S_fits_179 : decode b_S_fits 179 = .ok (.iconst 1, 1) := by decide +kernel
theorem d_S_fits_180 : decode b_S_fits 180 = .ok (.iconst 0, 1) := by decide +kernel
theorem d_S_fits_181 : decode b_S_fits 181 = .ok (.invokevirtual 64, 3) := by decide +kernel
theorem d_S_fits_184 : decode b_S_fits 184 = .ok (.ifCond .eq 25, 3) := by decide +kernel
theorem d_S_fits_187 : decode b_S_fits 187 = .ok (.aload_n 0, 1) := by decide +kernel
theorem d_S_fits_188 : decode b_S_fits 188 = .ok (.ldc 60, 2) := by decide +kernel
theorem d_S_fits_190 : decode b_S_fits 190 = .ok (.invokevirtual 27, 3) := by decide +kernel
theorem d_S_fits_193 : decode b_S_fits 193 = .ok (.ifCond .eq 16, 3) := by decide +kernel
theorem d_S_fits_196 : decode b_S_fits 196 = .ok (.aload_n 0, 1) := by decide +kernel
theorem d_S_fits_197 : decode b_S_fits 197 = .ok (.iconst 1, 1) := by decide +kernel
theorem d_S_fits_198 : decode b_S_fits 198 = .ok (.iconst 0, 1) := by decide +kernel
theorem d_S_fits_199 : decode b_S_fits 199 = .ok (.invokevirtual 31, 3) := by decide +kernel
theorem d_S_fits_202 : decode b_S_fits 202 = .ok (.ifCond .eq 7, 3) := by decide +kernel
theorem d_S_fits_205 : decode b_S_fits 205 = .ok (.iconst 1, 1) := by decide +kernel
theorem d_S_fits_206 : decode b_S_fits 206 = .ok (.goto 4, 3) := by decide +kernel
theorem d_S_fits_209 : decode b_S_fits 209 = .ok (.iconst 0, 1) := by decide +kernel
theorem d_S_fits_210 : decode b_S_fits 210 = .ok (.ireturn, 1) := by decide +kernel
theorem d_S_fits_211 : decode b_S_fits 211 = .ok (.aload_n 0, 1) := by decide +kernel
theorem d_S_fits_212 : decode b_S_fits 212 = .ok (.ldc 25, 2) := by decide +kernel
theorem d_S_fits_214 : decode b_S_fits 214 = .ok (.invokevirtual 27, 3) := by decide +kernel
theorem d_S_fits_217 : decode b_S_fits 217 = .ok (.ifCond .eq 25, 3) := by decide +kernel
theorem d_S_fits_220 : decode b_S_fits 220 = .ok (.aload_n 0, 1) := by decide +kernel
theorem d_S_fits_221 : decode b_S_fits 221 = .ok (.iconst 1, 1) := by decide +kernel
theorem d_S_fits_222 : decode b_S_fits 222 = .ok (.iconst 1, 1) := by decide +kernel
theorem d_S_fits_223 : decode b_S_fits 223 = .ok (.invokevirtual 31, 3) := by decide +kernel
theorem d_S_fits_226 : decode b_S_fits 226 = .ok (.ifCond .eq 16, 3) := by decide +kernel
theorem d_S_fits_229 : decode b_S_fits 229 = .ok (.aload_n 0, 1) := by decide +kernel
theorem d_S_fits_230 : decode b_S_fits 230 = .ok (.ldc 68, 2) := by decide +kernel
theorem d_S_fits_232 : decode b_S_fits 232 = .ok (.invokevirtual 27, 3) := by decide +kernel
theorem d_S_fits_235 : decode b_S_fits 235 = .ok (.ifCond .eq 7, 3) := by decide +kernel
theorem d_S_fits_238 : decode b_S_fits 238 = .ok (.iconst 1, 1) := by decide +kernel
theorem d_S_fits_239 : decode b_S_fits 239 = .ok (.goto 4, 3) := by decide +kernel
theorem d_S_fits_242 : decode b_S_fits 242 = .ok (.iconst 0, 1) := by decide +kernel
theorem d_S_fits_243 : decode b_S_fits 243 = .ok (.ireturn, 1) := by decide +kernel
theorem d_S_fits_244 : decode b_S_fits 244 = .ok (.aload_n 0, 1) := by decide +kernel
theorem d_S_fits_245 : decode b_S_fits 245 = .ok (.ldc 70, 2) := by decide +kernel
theorem d_S_fits_247 : decode b_S_fits 247 = .ok (.invokevirtual 27, 3) := by decide +kernel
theorem d_S_fits_250 : decode b_S_fits 250 = .ok (.ifCond .eq 25, 3) := by decide +kernel
theorem d_S_fits_253 : decode b_S_fits 253 = .ok (.aload_n 0, 1) := by decide +kernel
theorem d_S_fits_254 : decode b_S_fits 254 = .ok (.iconst 1, 1) := by decide +kernel
theorem d_S_fits_255 : decode b_S_fits 255 = .ok (.iconst 1, 1) := by decide +kernel
theorem d_S_fits_256 : decode b_S_fits 256 = .ok (.invokevirtual 31, 3) := by decide +kernel
theorem d_S_fits_259 : decode b_S_fits 259 = .ok (.ifCond .eq 16, 3) := by decide +kernel
theorem d_S_fits_262 : decode b_S_fits 262 = .ok (.aload_n 0, 1) := by decide +kernel
theorem d_S_fits_263 : decode b_S_fits 263 = .ok (.ldc 68, 2) := by decide +kernel
theorem d_S_fits_265 : decode b_S_fits 265 = .ok (.invokevirtual 27, 3) := by decide +kernel
theorem d_S_fits_268 : decode b_S_fits 268 = .ok (.ifCond .eq 7, 3) := by decide +kernel
theorem d_S_fits_271 : decode b_S_fits 271 = .ok (.iconst 1, 1) := by decide +kernel
theorem d_S_fits_272 : decode b_S_fits 272 = .ok (.goto 4, 3) := by decide +kernel
theorem d_S_fits_275 : decode b_S_fits 275 = .ok (.iconst 0, 1) := by decide +kernel
theorem d_S_fits_276 : decode b_S_fits 276 = .ok (.ireturn, 1) := by decide +kernel
theorem d_S_fits_277 : decode b_S_fits 277 = .ok (.aload_n 0, 1) := by decide +kernel
theorem d_S_fits_278 : decode b_S_fits 278 = .ok (.ldc 72, 2) := by decide +kernel
theorem d_S_fits_280 : decode b_S_fits 280 = .ok (.invokevirtual 27, 3) := by decide +kernel
theorem d_S_fits_283 : decode b_S_fits 283 = .ok (.ireturn, 1) := by decide +kernel
theorem d_S_fits_284 : decode b_S_fits 284 = .ok (.aload_n 0, 1) := by decide +kernel
theorem d_S_fits_285 : decode b_S_fits 285 = .ok (.ldc 74, 2) := by decide +kernel
theorem d_S_fits_287 : decode b_S_fits 287 = .ok (.invokevirtual 27, 3) := by decide +kernel
theorem d_S_fits_290 : decode b_S_fits 290 = .ok (.ireturn, 1) := by decide +kernel
theorem d_S_fits_291 : decode b_S_fits 291 = .ok (.aload_n 0, 1) := by decide +kernel
theorem d_S_fits_292 : decode b_S_fits 292 = .ok (.ldc 76, 2) := by decide +kernel
theorem d_S_fits_294 : decode b_S_fits 294 = .ok (.invokevirtual 27, 3) := by decide +kernel
theorem d_S_fits_297 : decode b_S_fits 297 = .ok (.ireturn, 1) := by decide +kernel
theorem d_S_fits_298 : decode b_S_fits 298 = .ok (.aload_n 0, 1) := by decide +kernel
theorem d_S_fits_299 : decode b_S_fits 299 = .ok (.ldc 78, 2) := by decide +kernel
theorem d_S_fits_301 : decode b_S_fits 301 = .ok (.invokevirtual 27, 3) := by decide +kernel
theorem d_S_fits_304 : decode b_S_fits 304 = .ok (.ifCond .eq 17, 3) := by decide +kernel
theorem d_S_fits_307 : decode b_S_fits 307 = .ok (.aload_n 0, 1) := by decide +kernel
theorem d_S_fits_308 : decode b_S_fits 308 = .ok (.iconst 5, 1) := by decide +kernel
theorem d_S_fits_309 : decode b_S_fits 309 = .ok (.bipush 6, 2) := by decide +kernel
theorem d_S_fits_311 : decode b_S_fits 311 = .ok (.invokevirtual 50, 3) := by decide +kernel
theorem d_S_fits_314 : decode b_S_fits 314 = .ok (.ifCond .eq 7, 3) := by decide +kernel
theorem d_S_fits_317 : decode b_S_fits 317 = .ok (.iconst 1, 1) := by decide +kernel
theorem d_S_fits_318 : decode b_S_fits 318 = .ok (.goto 4, 3) := by decide +kernel
theorem d_S_fits_321 : decode b_S_fits 321 = .ok (.iconst 0, 1) := by decide +kernel
theorem d_S_fits_322 : decode b_S_fits 322 = .ok (.ireturn, 1) := by decide +kernel
theorem d_S_fits_323 : decode b_S_fits 323 = .ok (.aload_n 0, 1) := by decide +kernel
theorem d_S_fits_324 : decode b_S_fits 324 = .ok (.ldc 80, 2) := by decide +kernel
theorem d_S_fits_326 : decode b_S_fits 326 = .ok (.invokevirtual 27, 3) := by decide +kernel
theorem d_S_fits_329 : decode b_S_fits 329 = .ok (.ifCond .eq 32, 3) := by decide +kernel
theorem d_S_fits_332 : decode b_S_fits 332 = .ok (.aload_n 0, 1) := by decide +kernel
theorem d_S_fits_333 : decode b_S_fits 333 = .ok (.iconst 2, 1) := by decide +kernel
theorem d_S_fits_334 : decode b_S_fits 334 = .ok (.invokevirtual 57, 3) := by decide +kernel
theorem d_S_fits_337 : decode b_S_fits 337 = .ok (.ifCond .eq 24, 3) := by decide +kernel
theorem d_S_fits_340 : decode b_S_fits 340 = .ok (.aload_n 0, 1) := by decide +kernel
theorem d_S_fits_341 : decode b_S_fits 341 = .ok (.bipush 40, 2) := by decide +kernel
theorem d_S_fits_343 : decode b_S_fits 343 = .ok (.invokevirtual 82, 3) := by decide +kernel
theorem d_S_fits_346 : decode b_S_fits 346 = .ok (.ifCond .eq 11, 3) := by decide +kernel
theorem d_S_fits_349 : decode b_S_fits 349 = .ok (.aload_n 0, 1) := by decide +kernel
theorem d_S_fits_350 : decode b_S_fits 350 = .ok (.iconst 1, 1) := by decide +kernel
theorem d_S_fits_351 : decode b_S_fits 351 = .ok (.invokevirtual 86, 3) := by decide +kernel
theorem d_S_fits_354 : decode b_S_fits 354 = .ok (.ifCond .eq 7, 3) := by decide +kernel
theorem d_S_fits_357 : decode b_S_fits 357 = .ok (.iconst 1, 1) := by decide +kernel
theorem d_S_fits_358 : decode b_S_fits 358 = .ok (.goto 4, 3) := by decide +kernel
theorem d_S_fits_361 : decode b_S_fits 361 = .ok (.iconst 0, 1) := by decide +kernel
theorem d_S_fits_362 : decode b_S_fits 362 = .ok (.ireturn, 1) := by decide +kernel
theorem d_S_fits_363 : decode b_S_fits 363 = .ok (.aload_n 0, 1) := by decide +kernel
theorem d_S_fits_364 : decode b_S_fits 364 = .ok (.ldc 89, 2) := by decide +kernel
theorem d_S_fits_366 : decode b_S_fits 366 = .ok (.invokevirtual 27, 3) := by decide +kernel
theorem d_S_fits_369 : decode b_S_fits 369 = .ok (.ireturn, 1) := by decide +kernel
theorem d_S_fits_370 : decode b_S_fits 370 = .ok (.aload_n 0, 1) := by decide +kernel
theorem d_S_fits_371 : decode b_S_fits 371 = .ok (.ldc 91, 2) := by decide +kernel
theorem d_S_fits_373 : decode b_S_fits 373 = .ok (.invokevirtual 27, 3) := by decide +kernel
theorem d_S_fits_376 : decode b_S_fits 376 = .ok (.ireturn, 1) := by decide +kernel
theorem d_S_fits_377 : decode b_S_fits 377 = .ok (.aload_n 0, 1) := by decide +kernel
theorem d_S_fits_378 : decode b_S_fits 378 = .ok (.ldc 93, 2) := by decide +kernel
theorem d_S_fits_380 : decode b_S_fits 380 = .ok (.invokevirtual 27, 3) := by decide +kernel
theorem d_S_fits_383 : decode b_S_fits 383 = .ok (.ifCond .eq 15, 3) := by decide +kernel
theorem d_S_fits_386 : decode b_S_fits 386 = .ok (.aload_n 0, 1) := by decide +kernel
theorem d_S_fits_387 : decode b_S_fits 387 = .ok (.iconst 0, 1) := by decide +kernel
theorem d_S_fits_388 : decode b_S_fits 388 = .ok (.invokevirtual 95, 3) := by decide +kernel
theorem d_S_fits_391 : decode b_S_fits 391 = .ok (.ifCond .eq 7, 3) := by decide +kernel
theorem d_S_fits_394 : decode b_S_fits 394 = .ok (.iconst 1, 1) := by decide +kernel
theorem d_S_fits_395 : decode b_S_fits 395 = .ok (.goto 4, 3) := by decide +kernel
theorem d_S_fits_398 : decode b_S_fits 398 = .ok (.iconst 0, 1) := by decide +kernel
theorem d_S_fits_399 : decode b_S_fits 399 = .ok (.ireturn, 1) := by decide +kernel
theorem d_S_fits_400 : decode b_S_fits 400 = .ok (.aload_n 0, 1) := by decide +kernel
theorem d_S_fits_401 : decode b_S_fits 401 = .ok (.ldc 98, 2) := by decide +kernel
theorem d_S_fits_403 : decode b_S_fits 403 = .ok (.invokevirtual 27, 3) := by decide +kernel
theorem d_S_fits_406 : decode b_S_fits 406 = .ok (.ireturn, 1) := by decide +kernel
theorem d_S_fits_407 : decode b_S_fits 407 = .ok (.aload_n 0, 1) := by decide +kernel
theorem d_S_fits_408 : decode b_S_fits 408 = .ok (.ldc 100, 2) := by decide +kernel
theorem d_S_fits_410 : decode b_S_fits 410 = .ok (.invokevirtual 27, 3) := by decide +kernel
theorem d_S_fits_413 : decode b_S_fits 413 = .ok (.ifCond .ne 21, 3) := by decide +kernel
theorem d_S_fits_416 : decode b_S_fits 416 = .ok (.aload_n 0, 1) := by decide +kernel
theorem d_S_fits_417 : decode b_S_fits 417 = .ok (.ldc 102, 2) := by decide +kernel
theorem d_S_fits_419 : decode b_S_fits 419 = .ok (.invokevirtual 27, 3) := by decide +kernel
theorem d_S_fits_422 : decode b_S_fits 422 = .ok (.ifCond .ne 12, 3) := by decide +kernel
theorem d_S_fits_425 : decode b_S_fits 425 = .ok (.aload_n 0, 1) := by decide +kernel
theorem d_S_fits_426 : decode b_S_fits 426 = .ok (.ldc 104, 2) := by decide +kernel
theorem d_S_fits_428 : decode b_S_fits 428 = .ok (.invokevirtual 27, 3) := by decide +kernel
theorem d_S_fits_431 : decode b_S_fits 431 = .ok (.ifCond .eq 16, 3) := by decide +kernel
theorem d_S_fits_434 : decode b_S_fits 434 = .ok (.aload_n 0, 1) := by decide +kernel
theorem d_S_fits_435 : decode b_S_fits 435 = .ok (.bipush 15, 2) := by decide +kernel
theorem d_S_fits_437 : decode b_S_fits 437 = .ok (.invokevirtual 106, 3) := by decide +kernel
theorem d_S_fits_440 : decode b_S_fits 440 = .ok (.ifCond .eq 7, 3) := by decide +kernel
theorem d_S_fits_443 : decode b_S_fits 443 = .ok (.iconst 1, 1) := by decide +kernel
theorem d_S_fits_444 : decode b_S_fits 444 = .ok (.goto 4, 3) := by decide +kernel
theorem d_S_fits_447 : decode b_S_fits 447 = .ok (.iconst 0, 1) := by decide +kernel
theorem d_S_fits_448 : decode b_S_fits 448 = .ok (.ireturn, 1) := by decide +kernel
theorem d_S_fits_449 : decode b_S_fits 449 = .ok (.aload_n 0, 1) := by decide +kernel
theorem d_S_fits_450 : decode b_S_fits 450 = .ok (.ldc 109, 2) := by decide +kernel
theorem d_S_fits_452 : decode b_S_fits 452 = .ok (.invokevirtual 27, 3) := by decide +kernel
theorem d_S_fits_455 : decode b_S_fits 455 = .ok (.ifCond .eq 16, 3) := by decide +kernel
theorem d_S_fits_458 : decode b_S_fits 458 = .ok (.aload_n 0, 1) := by decide +kernel
theorem d_S_fits_459 : decode b_S_fits 459 = .ok (.bipush 16, 2) := by decide +kernel
theorem d_S_fits_461 : decode b_S_fits 461 = .ok (.invokevirtual 106, 3) := by decide +kernel
theorem d_S_fits_464 : decode b_S_fits 464 = .ok (.ifCond .eq 7, 3) := by decide +kernel
theorem d_S_fits_467 : decode b_S_fits 467 = .ok (.iconst 1, 1) := by decide +kernel
theorem d_S_fits_468 : decode b_S_fits 468 = .ok (.goto 4, 3) := by decide +kernel
theorem d_S_fits_471 : decode b_S_fits 471 = .ok (.iconst 0, 1) := by decide +kernel
theorem d_S_fits_472 : decode b_S_fits 472 = .ok (.ireturn, 1) := by decide +kernel
theorem d_S_fits_473 : decode b_S_fits 473 = .ok (.aload_n 0, 1) := by decide +kernel
theorem d_S_fits_474 : decode b_S_fits 474 = .ok (.ldc 111, 2) := by decide +kernel
theorem d_S_fits_476 : decode b_S_fits 476 = .ok (.invokevirtual 27, 3) := by decide +kernel
theorem d_S_fits_479 : decode b_S_fits 479 = .ok (.ifCond .eq 41, 3) := by decide +kernel
theorem d_S_fits_482 : decode b_S_fits 482 = .ok (.aload_n 0, 1) := by decide +kernel
theorem d_S_fits_483 : decode b_S_fits 483 = .ok (.bipush 17, 2) := by decide +kernel
theorem d_S_fits_485 : decode b_S_fits 485 = .ok (.invokevirtual 106, 3) := by decide +kernel
theorem d_S_fits_488 : decode b_S_fits 488 = .ok (.ifCond .eq 32, 3) := by decide +kernel
theorem d_S_fits_491 : decode b_S_fits 491 = .ok (.aload_n 0, 1) := by decide +kernel
theorem d_S_fits_492 : decode b_S_fits 492 = .ok (.ldc 35, 2) := by decide +kernel
theorem d_S_fits_494 : decode b_S_fits 494 = .ok (.invokevirtual 27, 3) := by decide +kernel
theorem d_S_fits_497 : decode b_S_fits 497 = .ok (.ifCond .eq 23, 3) := by decide +kernel
theorem d_S_fits_500 : decode b_S_fits 500 = .ok (.aload_n 0, 1) := by decide +kernel
theorem d_S_fits_501 : decode b_S_fits 501 = .ok (.invokevirtual 53, 3) := by decide +kernel
theorem d_S_fits_504 : decode b_S_fits 504 = .ok (.ifCond .eq 16, 3) := by decide +kernel
theorem d_S_fits_507 : decode b_S_fits 507 = .ok (.aload_n 0, 1) := by decide +kernel
theorem d_S_fits_508 : decode b_S_fits 508 = .ok (.iconst 1, 1) := by decide +kernel
theorem d_S_fits_509 : decode b_S_fits 509 = .ok (.iconst 0, 1) := by decide +kernel
theorem d_S_fits_510 : decode b_S_fits 510 = .ok (.invokevirtual 31, 3) := by decide +kernel
theorem d_S_fits_513 : decode b_S_fits 513 = .ok (.ifCond .eq 7, 3) := by decide +kernel
theorem d_S_fits_516 : decode b_S_fits 516 = .ok (.iconst 1, 1) := by decide +kernel
theorem d_S_fits_517 : decode b_S_fits 517 = .ok (.goto 4, 3) := by decide +kernel
theorem d_S_fits_520 : decode b_S_fits 520 = .ok (.iconst 0, 1) := by decide +kernel
theorem d_S_fits_521 : decode b_S_fits 521 = .ok (.ireturn, 1) := by decide +kernel
theorem d_S_fits_522 : decode b_S_fits 522 = .ok (.iconst 0, 1) := by decide +kernel
theorem d_S_fits_523 : decode b_S_fits 523 = .ok (.ireturn, 1) := by decide +kernel
abbrev y_S_series : MethodName := ⟨"DeckFront$Statement", "series", "(I)Z"⟩
abbrev b_S_series : ByteArray := prog_4_method_6_code
abbrev w_S_series : List Cond := (Jvm.Cond.code ({ cls := "DeckFront$Statement", name := "series", desc := "(I)Z" } : Jvm.MethodName) prog_4_method_6_code (4 : Nat) (Option.some Jvm.ClassFile.FieldType.boolean)) :: wG
theorem d_S_series_0 : decode b_S_series 0 = .ok (.aload_n 0, 1) := by decide +kernel
theorem d_S_series_1 : decode b_S_series 1 = .ok (.iload_n 1, 1) := by decide +kernel
theorem d_S_series_2 : decode b_S_series 2 = .ok (.invokevirtual 113, 3) := by decide +kernel
theorem d_S_series_5 : decode b_S_series 5 = .ok (.istore_n 2, 1) := by decide +kernel
theorem d_S_series_6 : decode b_S_series 6 = .ok (.iconst 0, 1) := by decide +kernel
theorem d_S_series_7 : decode b_S_series 7 = .ok (.istore_n 3, 1) := by decide +kernel
theorem d_S_series_8 : decode b_S_series 8 = .ok (.iload_n 3, 1) := by decide +kernel
theorem d_S_series_9 : decode b_S_series 9 = .ok (.bipush 80, 2) := by decide +kernel
theorem d_S_series_11 : decode b_S_series 11 = .ok (.if_icmp .ge 28, 3) := by decide +kernel
theorem d_S_series_14 : decode b_S_series 14 = .ok (.iload_n 2, 1) := by decide +kernel
theorem d_S_series_15 : decode b_S_series 15 = .ok (.ifCond .eq 24, 3) := by decide +kernel
theorem d_S_series_18 : decode b_S_series 18 = .ok (.aload_n 0, 1) := by decide +kernel
theorem d_S_series_19 : decode b_S_series 19 = .ok (.ldc 62, 2) := by decide +kernel
theorem d_S_series_21 : decode b_S_series 21 = .ok (.invokevirtual 27, 3) := by decide +kernel
theorem d_S_series_24 : decode b_S_series 24 = .ok (.ifCond .eq 15, 3) := by decide +kernel
theorem d_S_series_27 : decode b_S_series 27 = .ok (.aload_n 0, 1) := by decide +kernel
theorem d_S_series_28 : decode b_S_series 28 = .ok (.iload_n 1, 1) := by decide +kernel
theorem d_S_series_29 : decode b_S_series 29 = .ok (.invokevirtual 113, 3) := by decide +kernel
theorem d_S_series_32 : decode b_S_series 32 = .ok (.istore_n 2, 1) := by decide +kernel
theorem d_S_series_33 : decode b_S_series 33 = .ok (.iinc 3 1, 3) := by decide +kernel
theorem d_S_series_36 : decode b_S_series 36 = .ok (.goto (-28), 3) := by decide +kernel
theorem d_S_series_39 : decode b_S_series 39 = .ok (.iload_n 2, 1) := by decide +kernel
theorem d_S_series_40 : decode b_S_series 40 = .ok (.ireturn, 1) := by decide +kernel
abbrev y_S_item : MethodName := ⟨"DeckFront$Statement", "item", "(I)Z"⟩
abbrev b_S_item : ByteArray := prog_4_method_7_code
abbrev w_S_item : List Cond := (Jvm.Cond.code ({ cls := "DeckFront$Statement", name := "item", desc := "(I)Z" } : Jvm.MethodName) prog_4_method_7_code (2 : Nat) (Option.some Jvm.ClassFile.FieldType.boolean)) :: wG
theorem d_S_item_0 : decode b_S_item 0 = .ok (.iload_n 1, 1) := by decide +kernel
theorem d_S_item_1 : decode b_S_item 1 = .ok (.bipush 15, 2) := by decide +kernel
theorem d_S_item_3 : decode b_S_item 3 = .ok (.if_icmp .ne 9, 3) := by decide +kernel
theorem d_S_item_6 : decode b_S_item 6 = .ok (.aload_n 0, 1) := by decide +kernel
theorem d_S_item_7 : decode b_S_item 7 = .ok (.iconst 4, 1) := by decide +kernel
theorem d_S_item_8 : decode b_S_item 8 = .ok (.invokevirtual 57, 3) := by decide +kernel
theorem d_S_item_11 : decode b_S_item 11 = .ok (.ireturn, 1) := by decide +kernel
theorem d_S_item_12 : decode b_S_item 12 = .ok (.iload_n 1, 1) := by decide +kernel
theorem d_S_item_13 : decode b_S_item 13 = .ok (.bipush 16, 2) := by decide +kernel
theorem d_S_item_15 : decode b_S_item 15 = .ok (.if_icmp .ne 44, 3) := by decide +kernel
theorem d_S_item_18 : decode b_S_item 18 = .ok (.aload_n 0, 1) := by decide +kernel
theorem d_S_item_19 : decode b_S_item 19 = .ok (.iconst 1, 1) := by decide +kernel
theorem d_S_item_20 : decode b_S_item 20 = .ok (.invokevirtual 57, 3) := by decide +kernel
theorem d_S_item_23 : decode b_S_item 23 = .ok (.ifCond .eq 34, 3) := by decide +kernel
theorem d_S_item_26 : decode b_S_item 26 = .ok (.aload_n 0, 1) := by decide +kernel
theorem d_S_item_27 : decode b_S_item 27 = .ok (.ldc 116, 2) := by decide +kernel
theorem d_S_item_29 : decode b_S_item 29 = .ok (.invokevirtual 27, 3) := by decide +kernel
theorem d_S_item_32 : decode b_S_item 32 = .ok (.ifCond .eq 25, 3) := by decide +kernel
theorem d_S_item_35 : decode b_S_item 35 = .ok (.aload_n 0, 1) := by decide +kernel
theorem d_S_item_36 : decode b_S_item 36 = .ok (.iconst 3, 1) := by decide +kernel
theorem d_S_item_37 : decode b_S_item 37 = .ok (.iconst 0, 1) := by decide +kernel
theorem d_S_item_38 : decode b_S_item 38 = .ok (.invokevirtual 50, 3) := by decide +kernel
theorem d_S_item_41 : decode b_S_item 41 = .ok (.ifCond .eq 16, 3) := by decide +kernel
theorem d_S_item_44 : decode b_S_item 44 = .ok (.aload_n 0, 1) := by decide +kernel
theorem d_S_item_45 : decode b_S_item 45 = .ok (.ldc 35, 2) := by decide +kernel
theorem d_S_item_47 : decode b_S_item 47 = .ok (.invokevirtual 27, 3) := by decide +kernel
theorem d_S_item_50 : decode b_S_item 50 = .ok (.ifCond .eq 7, 3) := by decide +kernel
theorem d_S_item_53 : decode b_S_item 53 = .ok (.iconst 1, 1) := by decide +kernel
theorem d_S_item_54 : decode b_S_item 54 = .ok (.goto 4, 3) := by decide +kernel
theorem d_S_item_57 : decode b_S_item 57 = .ok (.iconst 0, 1) := by decide +kernel
theorem d_S_item_58 : decode b_S_item 58 = .ok (.ireturn, 1) := by decide +kernel
theorem d_S_item_59 : decode b_S_item 59 = .ok (.aload_n 0, 1) := by decide +kernel
theorem d_S_item_60 : decode b_S_item 60 = .ok (.iconst 5, 1) := by decide +kernel
theorem d_S_item_61 : decode b_S_item 61 = .ok (.bipush 6, 2) := by decide +kernel
theorem d_S_item_63 : decode b_S_item 63 = .ok (.invokevirtual 50, 3) := by decide +kernel
theorem d_S_item_66 : decode b_S_item 66 = .ok (.ireturn, 1) := by decide +kernel
abbrev y_S_expression : MethodName := ⟨"DeckFront$Statement", "expression", "(II)Z"⟩
abbrev b_S_expression : ByteArray := prog_4_method_8_code
abbrev w_S_expression : List Cond := (Jvm.Cond.code ({ cls := "DeckFront$Statement", name := "expression", desc := "(II)Z" } : Jvm.MethodName) prog_4_method_8_code (7 : Nat) (Option.some Jvm.ClassFile.FieldType.boolean)) :: wG
theorem d_S_expression_0 : decode b_S_expression 0 = .ok (.iload_n 1, 1) := by decide +kernel
theorem d_S_expression_1 : decode b_S_expression 1 = .ok (.bipush 6, 2) := by decide +kernel
theorem d_S_expression_3 : decode b_S_expression 3 = .ok (.if_icmp .le 9, 3) := by decide +kernel
theorem d_S_expression_6 : decode b_S_expression 6 = .ok (.aload_n 0, 1) := by decide +kernel
theorem d_S_expression_7 : decode b_S_expression 7 = .ok (.iload_n 2, 1) := by decide +kernel
theorem d_S_expression_8 : decode b_S_expression 8 = .ok (.invokevirtual 118, 3) := by decide +kernel
theorem d_S_expression_11 : decode b_S_expression 11 = .ok (.ireturn, 1) := by decide +kernel
theorem d_S_expression_12 : decode b_S_expression 12 = .ok (.aload_n 0, 1) := by decide +kernel
theorem d_S_expression_13 : decode b_S_expression 13 = .ok (.getfield 15, 3) := by decide +kernel
theorem d_S_expression_16 : decode b_S_expression 16 = .ok (.istore_n 3, 1) := by decide +kernel
theorem d_S_expression_17 : decode b_S_expression 17 = .ok (.aload_n 0, 1) := by decide +kernel
theorem d_S_expression_18 : decode b_S_expression 18 = .ok (.iload_n 1, 1) := by decide +kernel
theorem d_S_expression_19 : decode b_S_expression 19 = .ok (.invokevirtual 121, 3) := by decide +kernel
theorem d_S_expression_22 : decode b_S_expression 22 = .ok (.istore 4, 2) := by decide +kernel
theorem d_S_expression_24 : decode b_S_expression 24 = .ok (.aload_n 0, 1) := by decide +kernel
theorem d_S_expression_25 : decode b_S_expression 25 = .ok (.iload_n 1, 1) := by decide +kernel
theorem d_S_expression_26 : decode b_S_expression 26 = .ok (.iconst 1, 1) := by decide +kernel
theorem d_S_expression_27 : decode b_S_expression 27 = .ok (.iadd, 1) := by decide +kernel
theorem d_S_expression_28 : decode b_S_expression 28 = .ok (.iload_n 2, 1) := by decide +kernel
theorem d_S_expression_29 : decode b_S_expression 29 = .ok (.invokevirtual 31, 3) := by decide +kernel
theorem d_S_expression_32 : decode b_S_expression 32 = .ok (.ifCond .ne 5, 3) := by decide +kernel
theorem d_S_expression_35 : decode b_S_expression 35 = .ok (.iconst 0, 1) := by decide +kernel
theorem d_S_expression_36 : decode b_S_expression 36 = .ok (.ireturn, 1) := by decide +kernel
theorem d_S_expression_37 : decode b_S_expression 37 = .ok (.aload_n 0, 1) := by decide +kernel
theorem d_S_expression_38 : decode b_S_expression 38 = .ok (.iload 4, 2) := by decide +kernel
theorem d_S_expression_40 : decode b_S_expression 40 = .ok (.invokevirtual 124, 3) := by decide +kernel
theorem d_S_expression_43 : decode b_S_expression 43 = .ok (.iload_n 1, 1) := by decide +kernel
theorem d_S_expression_44 : decode b_S_expression 44 = .ok (.iconst 4, 1) := by decide +kernel
theorem d_S_expression_45 : decode b_S_expression 45 = .ok (.if_icmp .ne 7, 3) := by decide +kernel
theorem d_S_expression_48 : decode b_S_expression 48 = .ok (.iconst 1, 1) := by decide +kernel
theorem d_S_expression_49 : decode b_S_expression 49 = .ok (.goto 5, 3) := by decide +kernel
theorem d_S_expression_52 : decode b_S_expression 52 = .ok (.bipush 80, 2) := by decide +kernel
theorem d_S_expression_54 : decode b_S_expression 54 = .ok (.istore 5, 2) := by decide +kernel
theorem d_S_expression_56 : decode b_S_expression 56 = .ok (.iconst 0, 1) := by decide +kernel
theorem d_S_expression_57 : decode b_S_expression 57 = .ok (.istore 6, 2) := by decide +kernel
theorem d_S_expression_59 : decode b_S_expression 59 = .ok (.iload 6, 2) := by decide +kernel
theorem d_S_expression_61 : decode b_S_expression 61 = .ok (.iload 5, 2) := by decide +kernel
theorem d_S_expression_63 : decode b_S_expression 63 = .ok (.if_icmp .ge 45, 3) := by decide +kernel
theorem d_S_expression_66 : decode b_S_expression 66 = .ok (.aload_n 0, 1) := by decide +kernel
theorem d_S_expression_67 : decode b_S_expression 67 = .ok (.iload_n 1, 1) := by decide +kernel
theorem d_S_expression_68 : decode b_S_expression 68 = .ok (.invokevirtual 127, 3) := by decide +kernel
theorem d_S_expression_71 : decode b_S_expression 71 = .ok (.ifCond .eq 37, 3) := by decide +kernel
theorem d_S_expression_74 : decode b_S_expression 74 = .ok (.aload_n 0, 1) := by decide +kernel
theorem d_S_expression_75 : decode b_S_expression 75 = .ok (.iload_n 1, 1) := by decide +kernel
theorem d_S_expression_76 : decode b_S_expression 76 = .ok (.iconst 1, 1) := by decide +kernel
theorem d_S_expression_77 : decode b_S_expression 77 = .ok (.iadd, 1) := by decide +kernel
theorem d_S_expression_78 : decode b_S_expression 78 = .ok (.iload_n 2, 1) := by decide +kernel
theorem d_S_expression_79 : decode b_S_expression 79 = .ok (.invokevirtual 31, 3) := by decide +kernel
theorem d_S_expression_82 : decode b_S_expression 82 = .ok (.ifCond .ne 5, 3) := by decide +kernel
theorem d_S_expression_85 : decode b_S_expression 85 = .ok (.iconst 0, 1) := by decide +kernel
theorem d_S_expression_86 : decode b_S_expression 86 = .ok (.ireturn, 1) := by decide +kernel
theorem d_S_expression_87 : decode b_S_expression 87 = .ok (.aload_n 0, 1) := by decide +kernel
theorem d_S_expression_88 : decode b_S_expression 88 = .ok (.getfield 130, 3) := by decide +kernel
theorem d_S_expression_91 : decode b_S_expression 91 = .ok (.iload_n 3, 1) := by decide +kernel
theorem d_S_expression_92 : decode b_S_expression 92 = .ok (.dup2, 1) := by decide +kernel
theorem d_S_expression_93 : decode b_S_expression 93 = .ok (.iaload, 1) := by decide +kernel
theorem d_S_expression_94 : decode b_S_expression 94 = .ok (.iconst 1, 1) := by decide +kernel
theorem d_S_expression_95 : decode b_S_expression 95 = .ok (.iadd, 1) := by decide +kernel
theorem d_S_expression_96 : decode b_S_expression 96 = .ok (.iastore, 1) := by decide +kernel
theorem d_S_expression_97 : decode b_S_expression 97 = .ok (.aload_n 0, 1) := by decide +kernel
theorem d_S_expression_98 : decode b_S_expression 98 = .ok (.iconst 1, 1) := by decide +kernel
theorem d_S_expression_99 : decode b_S_expression 99 = .ok (.invokevirtual 124, 3) := by decide +kernel
theorem d_S_expression_102 : decode b_S_expression 102 = .ok (.iinc 6 1, 3) := by decide +kernel
theorem d_S_expression_105 : decode b_S_expression 105 = .ok (.goto (-46), 3) := by decide +kernel
theorem d_S_expression_108 : decode b_S_expression 108 = .ok (.iconst 1, 1) := by decide +kernel
theorem d_S_expression_109 : decode b_S_expression 109 = .ok (.ireturn, 1) := by decide +kernel
abbrev y_S_takeSignsBefore : MethodName := ⟨"DeckFront$Statement", "takeSignsBefore", "(I)I"⟩
abbrev b_S_takeSignsBefore : ByteArray := prog_4_method_9_code
abbrev w_S_takeSignsBefore : List Cond := (Jvm.Cond.code ({ cls := "DeckFront$Statement", name := "takeSignsBefore", desc := "(I)I" } : Jvm.MethodName) prog_4_method_9_code (4 : Nat) (Option.some Jvm.ClassFile.FieldType.int)) :: wG
theorem d_S_takeSignsBefore_0 : decode b_S_takeSignsBefore 0 = .ok (.iconst 0, 1) := by decide +kernel
theorem d_S_takeSignsBefore_1 : decode b_S_takeSignsBefore 1 = .ok (.istore_n 2, 1) := by decide +kernel
theorem d_S_takeSignsBefore_2 : decode b_S_takeSignsBefore 2 = .ok (.iload_n 1, 1) := by decide +kernel
theorem d_S_takeSignsBefore_3 : decode b_S_takeSignsBefore 3 = .ok (.iconst 5, 1) := by decide +kernel
theorem d_S_takeSignsBefore_4 : decode b_S_takeSignsBefore 4 = .ok (.if_icmp .ne 47, 3) := by decide +kernel
theorem d_S_takeSignsBefore_7 : decode b_S_takeSignsBefore 7 = .ok (.aload_n 0, 1) := by decide +kernel
theorem d_S_takeSignsBefore_8 : decode b_S_takeSignsBefore 8 = .ok (.bipush 43, 2) := by decide +kernel
theorem d_S_takeSignsBefore_10 : decode b_S_takeSignsBefore 10 = .ok (.invokevirtual 82, 3) := by decide +kernel
theorem d_S_takeSignsBefore_13 : decode b_S_takeSignsBefore 13 = .ok (.ifCond .ne 12, 3) := by decide +kernel
theorem d_S_takeSignsBefore_16 : decode b_S_takeSignsBefore 16 = .ok (.aload_n 0, 1) := by decide +kernel
theorem d_S_takeSignsBefore_17 : decode b_S_takeSignsBefore 17 = .ok (.bipush 45, 2) := by decide +kernel
theorem d_S_takeSignsBefore_19 : decode b_S_takeSignsBefore 19 = .ok (.invokevirtual 82, 3) := by decide +kernel
theorem d_S_takeSignsBefore_22 : decode b_S_takeSignsBefore 22 = .ok (.ifCond .eq 29, 3) := by decide +kernel
theorem d_S_takeSignsBefore_25 : decode b_S_takeSignsBefore 25 = .ok (.aload_n 0, 1) := by decide +kernel
theorem d_S_takeSignsBefore_26 : decode b_S_takeSignsBefore 26 = .ok (.getfield 130, 3) := by decide +kernel
theorem d_S_takeSignsBefore_29 : decode b_S_takeSignsBefore 29 = .ok (.aload_n 0, 1) := by decide +kernel
theorem d_S_takeSignsBefore_30 : decode b_S_takeSignsBefore 30 = .ok (.getfield 15, 3) := by decide +kernel
theorem d_S_takeSignsBefore_33 : decode b_S_takeSignsBefore 33 = .ok (.dup2, 1) := by decide +kernel
theorem d_S_takeSignsBefore_34 : decode b_S_takeSignsBefore 34 = .ok (.iaload, 1) := by decide +kernel
theorem d_S_takeSignsBefore_35 : decode b_S_takeSignsBefore 35 = .ok (.iconst 1, 1) := by decide +kernel
theorem d_S_takeSignsBefore_36 : decode b_S_takeSignsBefore 36 = .ok (.iadd, 1) := by decide +kernel
theorem d_S_takeSignsBefore_37 : decode b_S_takeSignsBefore 37 = .ok (.iastore, 1) := by decide +kernel
theorem d_S_takeSignsBefore_38 : decode b_S_takeSignsBefore 38 = .ok (.aload_n 0, 1) := by decide +kernel
theorem d_S_takeSignsBefore_39 : decode b_S_takeSignsBefore 39 = .ok (.dup, 1) := by decide +kernel
theorem d_S_takeSignsBefore_40 : decode b_S_takeSignsBefore 40 = .ok (.getfield 15, 3) := by decide +kernel
theorem d_S_takeSignsBefore_43 : decode b_S_takeSignsBefore 43 = .ok (.iconst 1, 1) := by decide +kernel
theorem d_S_takeSignsBefore_44 : decode b_S_takeSignsBefore 44 = .ok (.iadd, 1) := by decide +kernel
theorem d_S_takeSignsBefore_45 : decode b_S_takeSignsBefore 45 = .ok (.putfield 15, 3) := by decide +kernel
theorem d_S_takeSignsBefore_48 : decode b_S_takeSignsBefore 48 = .ok (.iinc 2 1, 3) := by decide +kernel
theorem d_S_takeSignsBefore_51 : decode b_S_takeSignsBefore 51 = .ok (.iconst 0, 1) := by decide +kernel
theorem d_S_takeSignsBefore_52 : decode b_S_takeSignsBefore 52 = .ok (.istore_n 3, 1) := by decide +kernel
theorem d_S_takeSignsBefore_53 : decode b_S_takeSignsBefore 53 = .ok (.iload_n 3, 1) := by decide +kernel
theorem d_S_takeSignsBefore_54 : decode b_S_takeSignsBefore 54 = .ok (.bipush 80, 2) := by decide +kernel
theorem d_S_takeSignsBefore_56 : decode b_S_takeSignsBefore 56 = .ok (.if_icmp .ge 53, 3) := by decide +kernel
theorem d_S_takeSignsBefore_59 : decode b_S_takeSignsBefore 59 = .ok (.iload_n 1, 1) := by decide +kernel
theorem d_S_takeSignsBefore_60 : decode b_S_takeSignsBefore 60 = .ok (.iconst 3, 1) := by decide +kernel
theorem d_S_takeSignsBefore_61 : decode b_S_takeSignsBefore 61 = .ok (.if_icmp .ne 48, 3) := by decide +kernel
theorem d_S_takeSignsBefore_64 : decode b_S_takeSignsBefore 64 = .ok (.aload_n 0, 1) := by decide +kernel
theorem d_S_takeSignsBefore_65 : decode b_S_takeSignsBefore 65 = .ok (.aload_n 0, 1) := by decide +kernel
theorem d_S_takeSignsBefore_66 : decode b_S_takeSignsBefore 66 = .ok (.getfield 15, 3) := by decide +kernel
theorem d_S_takeSignsBefore_69 : decode b_S_takeSignsBefore 69 = .ok (.ldc 134, 2) := by decide +kernel
theorem d_S_takeSignsBefore_71 : decode b_S_takeSignsBefore 71 = .ok (.invokevirtual 136, 3) := by decide +kernel
theorem d_S_takeSignsBefore_74 : decode b_S_takeSignsBefore 74 = .ok (.ifCond .eq 35, 3) := by decide +kernel
theorem d_S_takeSignsBefore_77 : decode b_S_takeSignsBefore 77 = .ok (.aload_n 0, 1) := by decide +kernel
theorem d_S_takeSignsBefore_78 : decode b_S_takeSignsBefore 78 = .ok (.getfield 130, 3) := by decide +kernel
theorem d_S_takeSignsBefore_81 : decode b_S_takeSignsBefore 81 = .ok (.aload_n 0, 1) := by decide +kernel
theorem d_S_takeSignsBefore_82 : decode b_S_takeSignsBefore 82 = .ok (.getfield 15, 3) := by decide +kernel
theorem d_S_takeSignsBefore_85 : decode b_S_takeSignsBefore 85 = .ok (.dup2, 1) := by decide +kernel
theorem d_S_takeSignsBefore_86 : decode b_S_takeSignsBefore 86 = .ok (.iaload, 1) := by decide +kernel
theorem d_S_takeSignsBefore_87 : decode b_S_takeSignsBefore 87 = .ok (.iconst 1, 1) := by decide +kernel
theorem d_S_takeSignsBefore_88 : decode b_S_takeSignsBefore 88 = .ok (.iadd, 1) := by decide +kernel
theorem d_S_takeSignsBefore_89 : decode b_S_takeSignsBefore 89 = .ok (.iastore, 1) := by decide +kernel
theorem d_S_takeSignsBefore_90 : decode b_S_takeSignsBefore 90 = .ok (.aload_n 0, 1) := by decide +kernel
theorem d_S_takeSignsBefore_91 : decode b_S_takeSignsBefore 91 = .ok (.dup, 1) := by decide +kernel
theorem d_S_takeSignsBefore_92 : decode b_S_takeSignsBefore 92 = .ok (.getfield 15, 3) := by decide +kernel
theorem d_S_takeSignsBefore_95 : decode b_S_takeSignsBefore 95 = .ok (.iconst 5, 1) := by decide +kernel
theorem d_S_takeSignsBefore_96 : decode b_S_takeSignsBefore 96 = .ok (.iadd, 1) := by decide +kernel
theorem d_S_takeSignsBefore_97 : decode b_S_takeSignsBefore 97 = .ok (.putfield 15, 3) := by decide +kernel
theorem d_S_takeSignsBefore_100 : decode b_S_takeSignsBefore 100 = .ok (.iinc 2 1, 3) := by decide +kernel
theorem d_S_takeSignsBefore_103 : decode b_S_takeSignsBefore 103 = .ok (.iinc 3 1, 3) := by decide +kernel
theorem d_S_takeSignsBefore_106 : decode b_S_takeSignsBefore 106 = .ok (.goto (-53), 3) := by decide +kernel
theorem d_S_takeSignsBefore_109 : decode b_S_takeSignsBefore 109 = .ok (.iload_n 2, 1) := by decide +kernel
theorem d_S_takeSignsBefore_110 : decode b_S_takeSignsBefore 110 = .ok (.ireturn, 1) := by decide +kernel
abbrev y_S_takeSignBetween : MethodName := ⟨"DeckFront$Statement", "takeSignBetween", "(I)Z"⟩
abbrev b_S_takeSignBetween : ByteArray := prog_4_method_10_code
abbrev w_S_takeSignBetween : List Cond := (Jvm.Cond.code ({ cls := "DeckFront$Statement", name := "takeSignBetween", desc := "(I)Z" } : Jvm.MethodName) prog_4_method_10_code (2 : Nat) (Option.some Jvm.ClassFile.FieldType.boolean)) :: wG
theorem d_S_takeSignBetween_0 : decode b_S_takeSignBetween 0 = .ok (.iload_n 1, 1) := by decide +kernel
theorem d_S_takeSignBetween_1 : decode b_S_takeSignBetween 1 = .ok (.tableswitch 161 1 6 #[39, 46, 161, 53, 113, 137], 39) := by decide +kernel
theorem d_S_takeSignBetween_40 : decode b_S_takeSignBetween 40 = .ok (.aload_n 0, 1) := by decide +kernel
theorem d_S_takeSignBetween_41 : decode b_S_takeSignBetween 41 = .ok (.ldc 140, 2) := by decide +kernel
theorem d_S_takeSignBetween_43 : decode b_S_takeSignBetween 43 = .ok (.invokevirtual 27, 3) := by decide +kernel
theorem d_S_takeSignBetween_46 : decode b_S_takeSignBetween 46 = .ok (.ireturn, 1) := by decide +kernel
theorem d_S_takeSignBetween_47 : decode b_S_takeSignBetween 47 = .ok (.aload_n 0, 1) := by decide +kernel
theorem d_S_takeSignBetween_48 : decode b_S_takeSignBetween 48 = .ok (.ldc 142, 2) := by decide +kernel
theorem d_S_takeSignBetween_50 : decode b_S_takeSignBetween 50 = .ok (.invokevirtual 27, 3) := by decide +kernel
theorem d_S_takeSignBetween_53 : decode b_S_takeSignBetween 53 = .ok (.ireturn, 1) := by decide +kernel
theorem d_S_takeSignBetween_54 : decode b_S_takeSignBetween 54 = .ok (.aload_n 0, 1) := by decide +kernel
theorem d_S_takeSignBetween_55 : decode b_S_takeSignBetween 55 = .ok (.ldc 144, 2) := by decide +kernel
theorem d_S_takeSignBetween_57 : decode b_S_takeSignBetween 57 = .ok (.invokevirtual 27, 3) := by decide +kernel
theorem d_S_takeSignBetween_60 : decode b_S_takeSignBetween 60 = .ok (.ifCond .ne 48, 3) := by decide +kernel
theorem d_S_takeSignBetween_63 : decode b_S_takeSignBetween 63 = .ok (.aload_n 0, 1) := by decide +kernel
theorem d_S_takeSignBetween_64 : decode b_S_takeSignBetween 64 = .ok (.ldc 146, 2) := by decide +kernel
theorem d_S_takeSignBetween_66 : decode b_S_takeSignBetween 66 = .ok (.invokevirtual 27, 3) := by decide +kernel
theorem d_S_takeSignBetween_69 : decode b_S_takeSignBetween 69 = .ok (.ifCond .ne 39, 3) := by decide +kernel
theorem d_S_takeSignBetween_72 : decode b_S_takeSignBetween 72 = .ok (.aload_n 0, 1) := by decide +kernel
theorem d_S_takeSignBetween_73 : decode b_S_takeSignBetween 73 = .ok (.ldc 148, 2) := by decide +kernel
theorem d_S_takeSignBetween_75 : decode b_S_takeSignBetween 75 = .ok (.invokevirtual 27, 3) := by decide +kernel
theorem d_S_takeSignBetween_78 : decode b_S_takeSignBetween 78 = .ok (.ifCond .ne 30, 3) := by decide +kernel
theorem d_S_takeSignBetween_81 : decode b_S_takeSignBetween 81 = .ok (.aload_n 0, 1) := by decide +kernel
theorem d_S_takeSignBetween_82 : decode b_S_takeSignBetween 82 = .ok (.ldc 150, 2) := by decide +kernel
theorem d_S_takeSignBetween_84 : decode b_S_takeSignBetween 84 = .ok (.invokevirtual 27, 3) := by decide +kernel
theorem d_S_takeSignBetween_87 : decode b_S_takeSignBetween 87 = .ok (.ifCond .ne 21, 3) := by decide +kernel
theorem d_S_takeSignBetween_90 : decode b_S_takeSignBetween 90 = .ok (.aload_n 0, 1) := by decide +kernel
theorem d_S_takeSignBetween_91 : decode b_S_takeSignBetween 91 = .ok (.ldc 152, 2) := by decide +kernel
theorem d_S_takeSignBetween_93 : decode b_S_takeSignBetween 93 = .ok (.invokevirtual 27, 3) := by decide +kernel
theorem d_S_takeSignBetween_96 : decode b_S_takeSignBetween 96 = .ok (.ifCond .ne 12, 3) := by decide +kernel
theorem d_S_takeSignBetween_99 : decode b_S_takeSignBetween 99 = .ok (.aload_n 0, 1) := by decide +kernel
theorem d_S_takeSignBetween_100 : decode b_S_takeSignBetween 100 = .ok (.ldc 154, 2) := by decide +kernel
theorem d_S_takeSignBetween_102 : decode b_S_takeSignBetween 102 = .ok (.invokevirtual 27, 3) := by decide +kernel
theorem d_S_takeSignBetween_105 : decode b_S_takeSignBetween 105 = .ok (.ifCond .eq 7, 3) := by decide +kernel
theorem d_S_takeSignBetween_108 : decode b_S_takeSignBetween 108 = .ok (.iconst 1, 1) := by decide +kernel
theorem d_S_takeSignBetween_109 : decode b_S_takeSignBetween 109 = .ok (.goto 4, 3) := by decide +kernel
theorem d_S_takeSignBetween_112 : decode b_S_takeSignBetween 112 = .ok (.iconst 0, 1) := by decide +kernel
theorem d_S_takeSignBetween_113 : decode b_S_takeSignBetween 113 = .ok (.ireturn, 1) := by decide +kernel
theorem d_S_takeSignBetween_114 : decode b_S_takeSignBetween 114 = .ok (.aload_n 0, 1) := by decide +kernel
theorem d_S_takeSignBetween_115 : decode b_S_takeSignBetween 115 = .ok (.ldc 156, 2) := by decide +kernel
theorem d_S_takeSignBetween_117 : decode b_S_takeSignBetween 117 = .ok (.invokevirtual 27, 3) := by decide +kernel
theorem d_S_takeSignBetween_120 : decode b_S_takeSignBetween 120 = .ok (.ifCond .ne 12, 3) := by decide +kernel
theorem d_S_takeSignBetween_123 : decode b_S_takeSignBetween 123 = .ok (.aload_n 0, 1) := by decide +kernel
theorem d_S_takeSignBetween_124 : decode b_S_takeSignBetween 124 = .ok (.ldc 158, 2) := by decide +kernel
theorem d_S_takeSignBetween_126 : decode b_S_takeSignBetween 126 = .ok (.invokevirtual 27, 3) := by decide +kernel
theorem d_S_takeSignBetween_129 : decode b_S_takeSignBetween 129 = .ok (.ifCond .eq 7, 3) := by decide +kernel
theorem d_S_takeSignBetween_132 : decode b_S_takeSignBetween 132 = .ok (.iconst 1, 1) := by decide +kernel
theorem d_S_takeSignBetween_133 : decode b_S_takeSignBetween 133 = .ok (.goto 4, 3) := by decide +kernel
theorem d_S_takeSignBetween_136 : decode b_S_takeSignBetween 136 = .ok (.iconst 0, 1) := by decide +kernel
theorem d_S_takeSignBetween_137 : decode b_S_takeSignBetween 137 = .ok (.ireturn, 1) := by decide +kernel
theorem d_S_takeSignBetween_138 : decode b_S_takeSignBetween 138 = .ok (.aload_n 0, 1) := by decide +kernel
theorem d_S_takeSignBetween_139 : decode b_S_takeSignBetween 139 = .ok (.ldc 160, 2) := by decide +kernel
theorem d_S_takeSignBetween_141 : decode b_S_takeSignBetween 141 = .ok (.invokevirtual 27, 3) := by decide +kernel
theorem d_S_takeSignBetween_144 : decode b_S_takeSignBetween 144 = .ok (.ifCond .ne 12, 3) := by decide +kernel
theorem d_S_takeSignBetween_147 : decode b_S_takeSignBetween 147 = .ok (.aload_n 0, 1) := by decide +kernel
theorem d_S_takeSignBetween_148 : decode b_S_takeSignBetween 148 = .ok (.ldc 162, 2) := by decide +kernel
theorem d_S_takeSignBetween_150 : decode b_S_takeSignBetween 150 = .ok (.invokevirtual 27, 3) := by decide +kernel
theorem d_S_takeSignBetween_153 : decode b_S_takeSignBetween 153 = .ok (.ifCond .eq 7, 3) := by decide +kernel
theorem d_S_takeSignBetween_156 : decode b_S_takeSignBetween 156 = .ok (.iconst 1, 1) := by decide +kernel
theorem d_S_takeSignBetween_157 : decode b_S_takeSignBetween 157 = .ok (.goto 4, 3) := by decide +kernel
theorem d_S_takeSignBetween_160 : decode b_S_takeSignBetween 160 = .ok (.iconst 0, 1) := by decide +kernel
theorem d_S_takeSignBetween_161 : decode b_S_takeSignBetween 161 = .ok (.ireturn, 1) := by decide +kernel
theorem d_S_takeSignBetween_162 : decode b_S_takeSignBetween 162 = .ok (.iconst 0, 1) := by decide +kernel
theorem d_S_takeSignBetween_163 : decode b_S_takeSignBetween 163 = .ok (.ireturn, 1) := by decide +kernel
abbrev y_S_power : MethodName := ⟨"DeckFront$Statement", "power", "(I)Z"⟩
abbrev b_S_power : ByteArray := prog_4_method_11_code
abbrev w_S_power : List Cond := (Jvm.Cond.code ({ cls := "DeckFront$Statement", name := "power", desc := "(I)Z" } : Jvm.MethodName) prog_4_method_11_code (5 : Nat) (Option.some Jvm.ClassFile.FieldType.boolean)) :: wG
theorem d_S_power_0 : decode b_S_power 0 = .ok (.aload_n 0, 1) := by decide +kernel
theorem d_S_power_1 : decode b_S_power 1 = .ok (.getfield 15, 3) := by decide +kernel
theorem d_S_power_4 : decode b_S_power 4 = .ok (.istore_n 2, 1) := by decide +kernel
theorem d_S_power_5 : decode b_S_power 5 = .ok (.iconst 0, 1) := by decide +kernel
theorem d_S_power_6 : decode b_S_power 6 = .ok (.istore_n 3, 1) := by decide +kernel
theorem d_S_power_7 : decode b_S_power 7 = .ok (.aload_n 0, 1) := by decide +kernel
theorem d_S_power_8 : decode b_S_power 8 = .ok (.iload_n 1, 1) := by decide +kernel
theorem d_S_power_9 : decode b_S_power 9 = .ok (.invokevirtual 164, 3) := by decide +kernel
theorem d_S_power_12 : decode b_S_power 12 = .ok (.ifCond .ne 5, 3) := by decide +kernel
theorem d_S_power_15 : decode b_S_power 15 = .ok (.iconst 0, 1) := by decide +kernel
theorem d_S_power_16 : decode b_S_power 16 = .ok (.ireturn, 1) := by decide +kernel
theorem d_S_power_17 : decode b_S_power 17 = .ok (.iconst 0, 1) := by decide +kernel
theorem d_S_power_18 : decode b_S_power 18 = .ok (.istore 4, 2) := by decide +kernel
theorem d_S_power_20 : decode b_S_power 20 = .ok (.iload 4, 2) := by decide +kernel
theorem d_S_power_22 : decode b_S_power 22 = .ok (.bipush 80, 2) := by decide +kernel
theorem d_S_power_24 : decode b_S_power 24 = .ok (.if_icmp .ge 46, 3) := by decide +kernel
theorem d_S_power_27 : decode b_S_power 27 = .ok (.aload_n 0, 1) := by decide +kernel
theorem d_S_power_28 : decode b_S_power 28 = .ok (.ldc 167, 2) := by decide +kernel
theorem d_S_power_30 : decode b_S_power 30 = .ok (.invokevirtual 27, 3) := by decide +kernel
theorem d_S_power_33 : decode b_S_power 33 = .ok (.ifCond .eq 37, 3) := by decide +kernel
theorem d_S_power_36 : decode b_S_power 36 = .ok (.aload_n 0, 1) := by decide +kernel
theorem d_S_power_37 : decode b_S_power 37 = .ok (.getfield 130, 3) := by decide +kernel
theorem d_S_power_40 : decode b_S_power 40 = .ok (.iload_n 2, 1) := by decide +kernel
theorem d_S_power_41 : decode b_S_power 41 = .ok (.dup2, 1) := by decide +kernel
theorem d_S_power_42 : decode b_S_power 42 = .ok (.iaload, 1) := by decide +kernel
theorem d_S_power_43 : decode b_S_power 43 = .ok (.iconst 1, 1) := by decide +kernel
theorem d_S_power_44 : decode b_S_power 44 = .ok (.iadd, 1) := by decide +kernel
theorem d_S_power_45 : decode b_S_power 45 = .ok (.iastore, 1) := by decide +kernel
theorem d_S_power_46 : decode b_S_power 46 = .ok (.iinc 3 1, 3) := by decide +kernel
theorem d_S_power_49 : decode b_S_power 49 = .ok (.aload_n 0, 1) := by decide +kernel
theorem d_S_power_50 : decode b_S_power 50 = .ok (.getfield 15, 3) := by decide +kernel
theorem d_S_power_53 : decode b_S_power 53 = .ok (.istore_n 2, 1) := by decide +kernel
theorem d_S_power_54 : decode b_S_power 54 = .ok (.aload_n 0, 1) := by decide +kernel
theorem d_S_power_55 : decode b_S_power 55 = .ok (.iload_n 1, 1) := by decide +kernel
theorem d_S_power_56 : decode b_S_power 56 = .ok (.invokevirtual 164, 3) := by decide +kernel
theorem d_S_power_59 : decode b_S_power 59 = .ok (.ifCond .ne 5, 3) := by decide +kernel
theorem d_S_power_62 : decode b_S_power 62 = .ok (.iconst 0, 1) := by decide +kernel
theorem d_S_power_63 : decode b_S_power 63 = .ok (.ireturn, 1) := by decide +kernel
theorem d_S_power_64 : decode b_S_power 64 = .ok (.iinc 4 1, 3) := by decide +kernel
theorem d_S_power_67 : decode b_S_power 67 = .ok (.goto (-47), 3) := by decide +kernel
theorem d_S_power_70 : decode b_S_power 70 = .ok (.aload_n 0, 1) := by decide +kernel
theorem d_S_power_71 : decode b_S_power 71 = .ok (.iload_n 3, 1) := by decide +kernel
theorem d_S_power_72 : decode b_S_power 72 = .ok (.invokevirtual 124, 3) := by decide +kernel
theorem d_S_power_75 : decode b_S_power 75 = .ok (.iconst 1, 1) := by decide +kernel
theorem d_S_power_76 : decode b_S_power 76 = .ok (.ireturn, 1) := by decide +kernel
abbrev y_S_primary : MethodName := ⟨"DeckFront$Statement", "primary", "(I)Z"⟩
abbrev b_S_primary : ByteArray := prog_4_method_12_code
abbrev w_S_primary : List Cond := (Jvm.Cond.code ({ cls := "DeckFront$Statement", name := "primary", desc := "(I)Z" } : Jvm.MethodName) prog_4_method_12_code (2 : Nat) (Option.some Jvm.ClassFile.FieldType.boolean)) :: wG
theorem d_S_primary_0 : decode b_S_primary 0 = .ok (.aload_n 0, 1) := by decide +kernel
theorem d_S_primary_1 : decode b_S_primary 1 = .ok (.invokevirtual 169, 3) := by decide +kernel
theorem d_S_primary_4 : decode b_S_primary 4 = .ok (.ifCond .eq 8, 3) := by decide +kernel
theorem d_S_primary_7 : decode b_S_primary 7 = .ok (.aload_n 0, 1) := by decide +kernel
theorem d_S_primary_8 : decode b_S_primary 8 = .ok (.invokevirtual 172, 3) := by decide +kernel
theorem d_S_primary_11 : decode b_S_primary 11 = .ok (.ireturn, 1) := by decide +kernel
theorem d_S_primary_12 : decode b_S_primary 12 = .ok (.aload_n 0, 1) := by decide +kernel
theorem d_S_primary_13 : decode b_S_primary 13 = .ok (.ldc 175, 2) := by decide +kernel
theorem d_S_primary_15 : decode b_S_primary 15 = .ok (.invokevirtual 27, 3) := by decide +kernel
theorem d_S_primary_18 : decode b_S_primary 18 = .ok (.ifCond .ne 19, 3) := by decide +kernel
theorem d_S_primary_21 : decode b_S_primary 21 = .ok (.aload_n 0, 1) := by decide +kernel
theorem d_S_primary_22 : decode b_S_primary 22 = .ok (.ldc 177, 2) := by decide +kernel
theorem d_S_primary_24 : decode b_S_primary 24 = .ok (.invokevirtual 27, 3) := by decide +kernel
theorem d_S_primary_27 : decode b_S_primary 27 = .ok (.ifCond .ne 10, 3) := by decide +kernel
theorem d_S_primary_30 : decode b_S_primary 30 = .ok (.aload_n 0, 1) := by decide +kernel
theorem d_S_primary_31 : decode b_S_primary 31 = .ok (.invokevirtual 179, 3) := by decide +kernel
theorem d_S_primary_34 : decode b_S_primary 34 = .ok (.ifCond .eq 5, 3) := by decide +kernel
theorem d_S_primary_37 : decode b_S_primary 37 = .ok (.iconst 1, 1) := by decide +kernel
theorem d_S_primary_38 : decode b_S_primary 38 = .ok (.ireturn, 1) := by decide +kernel
theorem d_S_primary_39 : decode b_S_primary 39 = .ok (.aload_n 0, 1) := by decide +kernel
theorem d_S_primary_40 : decode b_S_primary 40 = .ok (.bipush 40, 2) := by decide +kernel
theorem d_S_primary_42 : decode b_S_primary 42 = .ok (.invokevirtual 82, 3) := by decide +kernel
theorem d_S_primary_45 : decode b_S_primary 45 = .ok (.ifCond .eq 13, 3) := by decide +kernel
theorem d_S_primary_48 : decode b_S_primary 48 = .ok (.aload_n 0, 1) := by decide +kernel
theorem d_S_primary_49 : decode b_S_primary 49 = .ok (.iload_n 1, 1) := by decide +kernel
theorem d_S_primary_50 : decode b_S_primary 50 = .ok (.iconst 1, 1) := by decide +kernel
theorem d_S_primary_51 : decode b_S_primary 51 = .ok (.iadd, 1) := by decide +kernel
theorem d_S_primary_52 : decode b_S_primary 52 = .ok (.invokevirtual 182, 3) := by decide +kernel
theorem d_S_primary_55 : decode b_S_primary 55 = .ok (.goto 11, 3) := by decide +kernel
theorem d_S_primary_58 : decode b_S_primary 58 = .ok (.aload_n 0, 1) := by decide +kernel
theorem d_S_primary_59 : decode b_S_primary 59 = .ok (.iload_n 1, 1) := by decide +kernel
theorem d_S_primary_60 : decode b_S_primary 60 = .ok (.iconst 1, 1) := by decide +kernel
theorem d_S_primary_61 : decode b_S_primary 61 = .ok (.iadd, 1) := by decide +kernel
theorem d_S_primary_62 : decode b_S_primary 62 = .ok (.iconst 1, 1) := by decide +kernel
theorem d_S_primary_63 : decode b_S_primary 63 = .ok (.invokevirtual 64, 3) := by decide +kernel
theorem d_S_primary_66 : decode b_S_primary 66 = .ok (.ireturn, 1) := by decide +kernel
abbrev y_S_group : MethodName := ⟨"DeckFront$Statement", "group", "(I)Z"⟩
abbrev b_S_group : ByteArray := prog_4_method_13_code
abbrev w_S_group : List Cond := (Jvm.Cond.code ({ cls := "DeckFront$Statement", name := "group", desc := "(I)Z" } : Jvm.MethodName) prog_4_method_13_code (2 : Nat) (Option.some Jvm.ClassFile.FieldType.boolean)) :: wG
theorem d_S_group_0 : decode b_S_group 0 = .ok (.iload_n 1, 1) := by decide +kernel
theorem d_S_group_1 : decode b_S_group 1 = .ok (.bipush 8, 2) := by decide +kernel
theorem d_S_group_3 : decode b_S_group 3 = .ok (.if_icmp .le 5, 3) := by decide +kernel
theorem d_S_group_6 : decode b_S_group 6 = .ok (.iconst 0, 1) := by decide +kernel
theorem d_S_group_7 : decode b_S_group 7 = .ok (.ireturn, 1) := by decide +kernel
theorem d_S_group_8 : decode b_S_group 8 = .ok (.aload_n 0, 1) := by decide +kernel
theorem d_S_group_9 : decode b_S_group 9 = .ok (.getfield 185, 3) := by decide +kernel
theorem d_S_group_12 : decode b_S_group 12 = .ok (.aload_n 0, 1) := by decide +kernel
theorem d_S_group_13 : decode b_S_group 13 = .ok (.getfield 15, 3) := by decide +kernel
theorem d_S_group_16 : decode b_S_group 16 = .ok (.iconst 5, 1) := by decide +kernel
theorem d_S_group_17 : decode b_S_group 17 = .ok (.iastore, 1) := by decide +kernel
theorem d_S_group_18 : decode b_S_group 18 = .ok (.aload_n 0, 1) := by decide +kernel
theorem d_S_group_19 : decode b_S_group 19 = .ok (.dup, 1) := by decide +kernel
theorem d_S_group_20 : decode b_S_group 20 = .ok (.getfield 15, 3) := by decide +kernel
theorem d_S_group_23 : decode b_S_group 23 = .ok (.iconst 1, 1) := by decide +kernel
theorem d_S_group_24 : decode b_S_group 24 = .ok (.iadd, 1) := by decide +kernel
theorem d_S_group_25 : decode b_S_group 25 = .ok (.putfield 15, 3) := by decide +kernel
theorem d_S_group_28 : decode b_S_group 28 = .ok (.aload_n 0, 1) := by decide +kernel
theorem d_S_group_29 : decode b_S_group 29 = .ok (.iconst 1, 1) := by decide +kernel
theorem d_S_group_30 : decode b_S_group 30 = .ok (.iload_n 1, 1) := by decide +kernel
theorem d_S_group_31 : decode b_S_group 31 = .ok (.invokevirtual 31, 3) := by decide +kernel
theorem d_S_group_34 : decode b_S_group 34 = .ok (.ifCond .eq 12, 3) := by decide +kernel
theorem d_S_group_37 : decode b_S_group 37 = .ok (.aload_n 0, 1) := by decide +kernel
theorem d_S_group_38 : decode b_S_group 38 = .ok (.bipush 41, 2) := by decide +kernel
theorem d_S_group_40 : decode b_S_group 40 = .ok (.invokevirtual 82, 3) := by decide +kernel
theorem d_S_group_43 : decode b_S_group 43 = .ok (.ifCond .ne 5, 3) := by decide +kernel
theorem d_S_group_46 : decode b_S_group 46 = .ok (.iconst 0, 1) := by decide +kernel
theorem d_S_group_47 : decode b_S_group 47 = .ok (.ireturn, 1) := by decide +kernel
theorem d_S_group_48 : decode b_S_group 48 = .ok (.aload_n 0, 1) := by decide +kernel
theorem d_S_group_49 : decode b_S_group 49 = .ok (.getfield 185, 3) := by decide +kernel
theorem d_S_group_52 : decode b_S_group 52 = .ok (.aload_n 0, 1) := by decide +kernel
theorem d_S_group_53 : decode b_S_group 53 = .ok (.getfield 15, 3) := by decide +kernel
theorem d_S_group_56 : decode b_S_group 56 = .ok (.iconst 5, 1) := by decide +kernel
theorem d_S_group_57 : decode b_S_group 57 = .ok (.iastore, 1) := by decide +kernel
theorem d_S_group_58 : decode b_S_group 58 = .ok (.aload_n 0, 1) := by decide +kernel
theorem d_S_group_59 : decode b_S_group 59 = .ok (.dup, 1) := by decide +kernel
theorem d_S_group_60 : decode b_S_group 60 = .ok (.getfield 15, 3) := by decide +kernel
theorem d_S_group_63 : decode b_S_group 63 = .ok (.iconst 1, 1) := by decide +kernel
theorem d_S_group_64 : decode b_S_group 64 = .ok (.iadd, 1) := by decide +kernel
theorem d_S_group_65 : decode b_S_group 65 = .ok (.putfield 15, 3) := by decide +kernel
theorem d_S_group_68 : decode b_S_group 68 = .ok (.iconst 1, 1) := by decide +kernel
theorem d_S_group_69 : decode b_S_group 69 = .ok (.ireturn, 1) := by decide +kernel
abbrev y_S_reference : MethodName := ⟨"DeckFront$Statement", "reference", "(IZ)Z"⟩
abbrev b_S_reference : ByteArray := prog_4_method_14_code
abbrev w_S_reference : List Cond := (Jvm.Cond.code ({ cls := "DeckFront$Statement", name := "reference", desc := "(IZ)Z" } : Jvm.MethodName) prog_4_method_14_code (4 : Nat) (Option.some Jvm.ClassFile.FieldType.boolean)) :: wG
theorem d_S_reference_0 : decode b_S_reference 0 = .ok (.aload_n 0, 1) := by decide +kernel
theorem d_S_reference_1 : decode b_S_reference 1 = .ok (.getfield 15, 3) := by decide +kernel
theorem d_S_reference_4 : decode b_S_reference 4 = .ok (.istore_n 3, 1) := by decide +kernel
theorem d_S_reference_5 : decode b_S_reference 5 = .ok (.aload_n 0, 1) := by decide +kernel
theorem d_S_reference_6 : decode b_S_reference 6 = .ok (.iconst 4, 1) := by decide +kernel
theorem d_S_reference_7 : decode b_S_reference 7 = .ok (.invokevirtual 57, 3) := by decide +kernel
theorem d_S_reference_10 : decode b_S_reference 10 = .ok (.ifCond .ne 5, 3) := by decide +kernel
theorem d_S_reference_13 : decode b_S_reference 13 = .ok (.iconst 0, 1) := by decide +kernel
theorem d_S_reference_14 : decode b_S_reference 14 = .ok (.ireturn, 1) := by decide +kernel
theorem d_S_reference_15 : decode b_S_reference 15 = .ok (.aload_n 0, 1) := by decide +kernel
theorem d_S_reference_16 : decode b_S_reference 16 = .ok (.bipush 40, 2) := by decide +kernel
theorem d_S_reference_18 : decode b_S_reference 18 = .ok (.invokevirtual 82, 3) := by decide +kernel
theorem d_S_reference_21 : decode b_S_reference 21 = .ok (.ifCond .ne 5, 3) := by decide +kernel
theorem d_S_reference_24 : decode b_S_reference 24 = .ok (.iconst 1, 1) := by decide +kernel
theorem d_S_reference_25 : decode b_S_reference 25 = .ok (.ireturn, 1) := by decide +kernel
theorem d_S_reference_26 : decode b_S_reference 26 = .ok (.aload_n 0, 1) := by decide +kernel
theorem d_S_reference_27 : decode b_S_reference 27 = .ok (.getfield 185, 3) := by decide +kernel
theorem d_S_reference_30 : decode b_S_reference 30 = .ok (.iload_n 3, 1) := by decide +kernel
theorem d_S_reference_31 : decode b_S_reference 31 = .ok (.iconst 3, 1) := by decide +kernel
theorem d_S_reference_32 : decode b_S_reference 32 = .ok (.iastore, 1) := by decide +kernel
theorem d_S_reference_33 : decode b_S_reference 33 = .ok (.iload_n 1, 1) := by decide +kernel
theorem d_S_reference_34 : decode b_S_reference 34 = .ok (.bipush 8, 2) := by decide +kernel
theorem d_S_reference_36 : decode b_S_reference 36 = .ok (.if_icmp .gt 28, 3) := by decide +kernel
theorem d_S_reference_39 : decode b_S_reference 39 = .ok (.iload_n 2, 1) := by decide +kernel
theorem d_S_reference_40 : decode b_S_reference 40 = .ok (.ifCond .eq 12, 3) := by decide +kernel
theorem d_S_reference_43 : decode b_S_reference 43 = .ok (.aload_n 0, 1) := by decide +kernel
theorem d_S_reference_44 : decode b_S_reference 44 = .ok (.ldc 188, 2) := by decide +kernel
theorem d_S_reference_46 : decode b_S_reference 46 = .ok (.invokevirtual 27, 3) := by decide +kernel
theorem d_S_reference_49 : decode b_S_reference 49 = .ok (.ifCond .ne 11, 3) := by decide +kernel
theorem d_S_reference_52 : decode b_S_reference 52 = .ok (.aload_n 0, 1) := by decide +kernel
theorem d_S_reference_53 : decode b_S_reference 53 = .ok (.iload_n 1, 1) := by decide +kernel
theorem d_S_reference_54 : decode b_S_reference 54 = .ok (.invokevirtual 86, 3) := by decide +kernel
theorem d_S_reference_57 : decode b_S_reference 57 = .ok (.ifCond .eq 7, 3) := by decide +kernel
theorem d_S_reference_60 : decode b_S_reference 60 = .ok (.iconst 1, 1) := by decide +kernel
theorem d_S_reference_61 : decode b_S_reference 61 = .ok (.goto 4, 3) := by decide +kernel
theorem d_S_reference_64 : decode b_S_reference 64 = .ok (.iconst 0, 1) := by decide +kernel
theorem d_S_reference_65 : decode b_S_reference 65 = .ok (.ireturn, 1) := by decide +kernel
abbrev y_S_list : MethodName := ⟨"DeckFront$Statement", "list", "(I)Z"⟩
abbrev b_S_list : ByteArray := prog_4_method_15_code
abbrev w_S_list : List Cond := (Jvm.Cond.code ({ cls := "DeckFront$Statement", name := "list", desc := "(I)Z" } : Jvm.MethodName) prog_4_method_15_code (2 : Nat) (Option.some Jvm.ClassFile.FieldType.boolean)) :: wG
theorem d_S_list_0 : decode b_S_list 0 = .ok (.iload_n 1, 1) := by decide +kernel
theorem d_S_list_1 : decode b_S_list 1 = .ok (.bipush 8, 2) := by decide +kernel
theorem d_S_list_3 : decode b_S_list 3 = .ok (.if_icmp .gt 33, 3) := by decide +kernel
theorem d_S_list_6 : decode b_S_list 6 = .ok (.aload_n 0, 1) := by decide +kernel
theorem d_S_list_7 : decode b_S_list 7 = .ok (.ldc 116, 2) := by decide +kernel
theorem d_S_list_9 : decode b_S_list 9 = .ok (.invokevirtual 27, 3) := by decide +kernel
theorem d_S_list_12 : decode b_S_list 12 = .ok (.ifCond .eq 24, 3) := by decide +kernel
theorem d_S_list_15 : decode b_S_list 15 = .ok (.aload_n 0, 1) := by decide +kernel
theorem d_S_list_16 : decode b_S_list 16 = .ok (.iload_n 1, 1) := by decide +kernel
theorem d_S_list_17 : decode b_S_list 17 = .ok (.invokevirtual 95, 3) := by decide +kernel
theorem d_S_list_20 : decode b_S_list 20 = .ok (.ifCond .eq 16, 3) := by decide +kernel
theorem d_S_list_23 : decode b_S_list 23 = .ok (.aload_n 0, 1) := by decide +kernel
theorem d_S_list_24 : decode b_S_list 24 = .ok (.ldc 35, 2) := by decide +kernel
theorem d_S_list_26 : decode b_S_list 26 = .ok (.invokevirtual 27, 3) := by decide +kernel
theorem d_S_list_29 : decode b_S_list 29 = .ok (.ifCond .eq 7, 3) := by decide +kernel
theorem d_S_list_32 : decode b_S_list 32 = .ok (.iconst 1, 1) := by decide +kernel
theorem d_S_list_33 : decode b_S_list 33 = .ok (.goto 4, 3) := by decide +kernel
theorem d_S_list_36 : decode b_S_list 36 = .ok (.iconst 0, 1) := by decide +kernel
theorem d_S_list_37 : decode b_S_list 37 = .ok (.ireturn, 1) := by decide +kernel
abbrev y_S_expressions : MethodName := ⟨"DeckFront$Statement", "expressions", "(I)Z"⟩
abbrev b_S_expressions : ByteArray := prog_4_method_16_code
abbrev w_S_expressions : List Cond := (Jvm.Cond.code ({ cls := "DeckFront$Statement", name := "expressions", desc := "(I)Z" } : Jvm.MethodName) prog_4_method_16_code (4 : Nat) (Option.some Jvm.ClassFile.FieldType.boolean)) :: wG
theorem d_S_expressions_0 : decode b_S_expressions 0 = .ok (.aload_n 0, 1) := by decide +kernel
theorem d_S_expressions_1 : decode b_S_expressions 1 = .ok (.iconst 1, 1) := by decide +kernel
theorem d_S_expressions_2 : decode b_S_expressions 2 = .ok (.iload_n 1, 1) := by decide +kernel
theorem d_S_expressions_3 : decode b_S_expressions 3 = .ok (.invokevirtual 31, 3) := by decide +kernel
theorem d_S_expressions_6 : decode b_S_expressions 6 = .ok (.istore_n 2, 1) := by decide +kernel
theorem d_S_expressions_7 : decode b_S_expressions 7 = .ok (.iconst 0, 1) := by decide +kernel
theorem d_S_expressions_8 : decode b_S_expressions 8 = .ok (.istore_n 3, 1) := by decide +kernel
theorem d_S_expressions_9 : decode b_S_expressions 9 = .ok (.iload_n 3, 1) := by decide +kernel
theorem d_S_expressions_10 : decode b_S_expressions 10 = .ok (.bipush 80, 2) := by decide +kernel
theorem d_S_expressions_12 : decode b_S_expressions 12 = .ok (.if_icmp .ge 29, 3) := by decide +kernel
theorem d_S_expressions_15 : decode b_S_expressions 15 = .ok (.iload_n 2, 1) := by decide +kernel
theorem d_S_expressions_16 : decode b_S_expressions 16 = .ok (.ifCond .eq 25, 3) := by decide +kernel
theorem d_S_expressions_19 : decode b_S_expressions 19 = .ok (.aload_n 0, 1) := by decide +kernel
theorem d_S_expressions_20 : decode b_S_expressions 20 = .ok (.ldc 62, 2) := by decide +kernel
theorem d_S_expressions_22 : decode b_S_expressions 22 = .ok (.invokevirtual 27, 3) := by decide +kernel
theorem d_S_expressions_25 : decode b_S_expressions 25 = .ok (.ifCond .eq 16, 3) := by decide +kernel
theorem d_S_expressions_28 : decode b_S_expressions 28 = .ok (.aload_n 0, 1) := by decide +kernel
theorem d_S_expressions_29 : decode b_S_expressions 29 = .ok (.iconst 1, 1) := by decide +kernel
theorem d_S_expressions_30 : decode b_S_expressions 30 = .ok (.iload_n 1, 1) := by decide +kernel
theorem d_S_expressions_31 : decode b_S_expressions 31 = .ok (.invokevirtual 31, 3) := by decide +kernel
theorem d_S_expressions_34 : decode b_S_expressions 34 = .ok (.istore_n 2, 1) := by decide +kernel
theorem d_S_expressions_35 : decode b_S_expressions 35 = .ok (.iinc 3 1, 3) := by decide +kernel
theorem d_S_expressions_38 : decode b_S_expressions 38 = .ok (.goto (-29), 3) := by decide +kernel
theorem d_S_expressions_41 : decode b_S_expressions 41 = .ok (.iload_n 2, 1) := by decide +kernel
theorem d_S_expressions_42 : decode b_S_expressions 42 = .ok (.ireturn, 1) := by decide +kernel
abbrev y_S_typeTold : MethodName := ⟨"DeckFront$Statement", "typeTold", "()I"⟩
abbrev b_S_typeTold : ByteArray := prog_4_method_17_code
abbrev w_S_typeTold : List Cond := (Jvm.Cond.code ({ cls := "DeckFront$Statement", name := "typeTold", desc := "()I" } : Jvm.MethodName) prog_4_method_17_code (1 : Nat) (Option.some Jvm.ClassFile.FieldType.int)) :: wG
theorem d_S_typeTold_0 : decode b_S_typeTold 0 = .ok (.aload_n 0, 1) := by decide +kernel
theorem d_S_typeTold_1 : decode b_S_typeTold 1 = .ok (.getfield 190, 3) := by decide +kernel
theorem d_S_typeTold_4 : decode b_S_typeTold 4 = .ok (.iconst 0, 1) := by decide +kernel
theorem d_S_typeTold_5 : decode b_S_typeTold 5 = .ok (.caload, 1) := by decide +kernel
theorem d_S_typeTold_6 : decode b_S_typeTold 6 = .ok (.bipush 73, 2) := by decide +kernel
theorem d_S_typeTold_8 : decode b_S_typeTold 8 = .ok (.if_icmp .ne 5, 3) := by decide +kernel
theorem d_S_typeTold_11 : decode b_S_typeTold 11 = .ok (.iconst 1, 1) := by decide +kernel
theorem d_S_typeTold_12 : decode b_S_typeTold 12 = .ok (.ireturn, 1) := by decide +kernel
theorem d_S_typeTold_13 : decode b_S_typeTold 13 = .ok (.aload_n 0, 1) := by decide +kernel
theorem d_S_typeTold_14 : decode b_S_typeTold 14 = .ok (.getfield 190, 3) := by decide +kernel
theorem d_S_typeTold_17 : decode b_S_typeTold 17 = .ok (.iconst 0, 1) := by decide +kernel
theorem d_S_typeTold_18 : decode b_S_typeTold 18 = .ok (.caload, 1) := by decide +kernel
theorem d_S_typeTold_19 : decode b_S_typeTold 19 = .ok (.bipush 82, 2) := by decide +kernel
theorem d_S_typeTold_21 : decode b_S_typeTold 21 = .ok (.if_icmp .ne 7, 3) := by decide +kernel
theorem d_S_typeTold_24 : decode b_S_typeTold 24 = .ok (.iconst 2, 1) := by decide +kernel
theorem d_S_typeTold_25 : decode b_S_typeTold 25 = .ok (.goto 4, 3) := by decide +kernel
theorem d_S_typeTold_28 : decode b_S_typeTold 28 = .ok (.iconst 3, 1) := by decide +kernel
theorem d_S_typeTold_29 : decode b_S_typeTold 29 = .ok (.ireturn, 1) := by decide +kernel
abbrev y_S_loopNumber : MethodName := ⟨"DeckFront$Statement", "loopNumber", "()I"⟩
abbrev b_S_loopNumber : ByteArray := prog_4_method_18_code
abbrev w_S_loopNumber : List Cond := (Jvm.Cond.code ({ cls := "DeckFront$Statement", name := "loopNumber", desc := "()I" } : Jvm.MethodName) prog_4_method_18_code (2 : Nat) (Option.some Jvm.ClassFile.FieldType.int)) :: wG
theorem d_S_loopNumber_0 : decode b_S_loopNumber 0 = .ok (.iconst 0, 1) := by decide +kernel
theorem d_S_loopNumber_1 : decode b_S_loopNumber 1 = .ok (.istore_n 1, 1) := by decide +kernel
theorem d_S_loopNumber_2 : decode b_S_loopNumber 2 = .ok (.iload_n 1, 1) := by decide +kernel
theorem d_S_loopNumber_3 : decode b_S_loopNumber 3 = .ok (.aload_n 0, 1) := by decide +kernel
theorem d_S_loopNumber_4 : decode b_S_loopNumber 4 = .ok (.getfield 9, 3) := by decide +kernel
theorem d_S_loopNumber_7 : decode b_S_loopNumber 7 = .ok (.if_icmp .ge 26, 3) := by decide +kernel
theorem d_S_loopNumber_10 : decode b_S_loopNumber 10 = .ok (.aload_n 0, 1) := by decide +kernel
theorem d_S_loopNumber_11 : decode b_S_loopNumber 11 = .ok (.getfield 185, 3) := by decide +kernel
theorem d_S_loopNumber_14 : decode b_S_loopNumber 14 = .ok (.iload_n 1, 1) := by decide +kernel
theorem d_S_loopNumber_15 : decode b_S_loopNumber 15 = .ok (.iaload, 1) := by decide +kernel
theorem d_S_loopNumber_16 : decode b_S_loopNumber 16 = .ok (.bipush 6, 2) := by decide +kernel
theorem d_S_loopNumber_18 : decode b_S_loopNumber 18 = .ok (.if_icmp .ne 9, 3) := by decide +kernel
theorem d_S_loopNumber_21 : decode b_S_loopNumber 21 = .ok (.aload_n 0, 1) := by decide +kernel
theorem d_S_loopNumber_22 : decode b_S_loopNumber 22 = .ok (.iload_n 1, 1) := by decide +kernel
theorem d_S_loopNumber_23 : decode b_S_loopNumber 23 = .ok (.invokevirtual 194, 3) := by decide +kernel
theorem d_S_loopNumber_26 : decode b_S_loopNumber 26 = .ok (.ireturn, 1) := by decide +kernel
theorem d_S_loopNumber_27 : decode b_S_loopNumber 27 = .ok (.iinc 1 1, 3) := by decide +kernel
theorem d_S_loopNumber_30 : decode b_S_loopNumber 30 = .ok (.goto (-28), 3) := by decide +kernel
theorem d_S_loopNumber_33 : decode b_S_loopNumber 33 = .ok (.iconst 0, 1) := by decide +kernel
theorem d_S_loopNumber_34 : decode b_S_loopNumber 34 = .ok (.ireturn, 1) := by decide +kernel
abbrev y_S_declares : MethodName := ⟨"DeckFront$Statement", "declares", "()Z"⟩
abbrev b_S_declares : ByteArray := prog_4_method_19_code
abbrev w_S_declares : List Cond := (Jvm.Cond.code ({ cls := "DeckFront$Statement", name := "declares", desc := "()Z" } : Jvm.MethodName) prog_4_method_19_code (1 : Nat) (Option.some Jvm.ClassFile.FieldType.boolean)) :: wG
theorem d_S_declares_0 : decode b_S_declares 0 = .ok (.aload_n 0, 1) := by decide +kernel
theorem d_S_declares_1 : decode b_S_declares 1 = .ok (.getfield 22, 3) := by decide +kernel
theorem d_S_declares_4 : decode b_S_declares 4 = .ok (.bipush 15, 2) := by decide +kernel
theorem d_S_declares_6 : decode b_S_declares 6 = .ok (.if_icmp .eq 12, 3) := by decide +kernel
theorem d_S_declares_9 : decode b_S_declares 9 = .ok (.aload_n 0, 1) := by decide +kernel
theorem d_S_declares_10 : decode b_S_declares 10 = .ok (.getfield 22, 3) := by decide +kernel
theorem d_S_declares_13 : decode b_S_declares 13 = .ok (.bipush 16, 2) := by decide +kernel
theorem d_S_declares_15 : decode b_S_declares 15 = .ok (.if_icmp .ne 7, 3) := by decide +kernel
theorem d_S_declares_18 : decode b_S_declares 18 = .ok (.iconst 1, 1) := by decide +kernel
theorem d_S_declares_19 : decode b_S_declares 19 = .ok (.goto 4, 3) := by decide +kernel
theorem d_S_declares_22 : decode b_S_declares 22 = .ok (.iconst 0, 1) := by decide +kernel
theorem d_S_declares_23 : decode b_S_declares 23 = .ok (.ireturn, 1) := by decide +kernel
abbrev y_S_isBranch : MethodName := ⟨"DeckFront$Statement", "isBranch", "()Z"⟩
abbrev b_S_isBranch : ByteArray := prog_4_method_20_code
abbrev w_S_isBranch : List Cond := (Jvm.Cond.code ({ cls := "DeckFront$Statement", name := "isBranch", desc := "()Z" } : Jvm.MethodName) prog_4_method_20_code (1 : Nat) (Option.some Jvm.ClassFile.FieldType.boolean)) :: wG
theorem d_S_isBranch_0 : decode b_S_isBranch 0 = .ok (.aload_n 0, 1) := by decide +kernel
theorem d_S_isBranch_1 : decode b_S_isBranch 1 = .ok (.getfield 22, 3) := by decide +kernel
theorem d_S_isBranch_4 : decode b_S_isBranch 4 = .ok (.iconst 5, 1) := by decide +kernel
theorem d_S_isBranch_5 : decode b_S_isBranch 5 = .ok (.if_icmp .eq 21, 3) := by decide +kernel
theorem d_S_isBranch_8 : decode b_S_isBranch 8 = .ok (.aload_n 0, 1) := by decide +kernel
theorem d_S_isBranch_9 : decode b_S_isBranch 9 = .ok (.getfield 22, 3) := by decide +kernel
theorem d_S_isBranch_12 : decode b_S_isBranch 12 = .ok (.bipush 6, 2) := by decide +kernel
theorem d_S_isBranch_14 : decode b_S_isBranch 14 = .ok (.if_icmp .eq 12, 3) := by decide +kernel
theorem d_S_isBranch_17 : decode b_S_isBranch 17 = .ok (.aload_n 0, 1) := by decide +kernel
theorem d_S_isBranch_18 : decode b_S_isBranch 18 = .ok (.getfield 22, 3) := by decide +kernel
theorem d_S_isBranch_21 : decode b_S_isBranch 21 = .ok (.bipush 7, 2) := by decide +kernel
theorem d_S_isBranch_23 : decode b_S_isBranch 23 = .ok (.if_icmp .ne 7, 3) := by decide +kernel
theorem d_S_isBranch_26 : decode b_S_isBranch 26 = .ok (.iconst 1, 1) := by decide +kernel
theorem d_S_isBranch_27 : decode b_S_isBranch 27 = .ok (.goto 4, 3) := by decide +kernel
theorem d_S_isBranch_30 : decode b_S_isBranch 30 = .ok (.iconst 0, 1) := by decide +kernel
theorem d_S_isBranch_31 : decode b_S_isBranch 31 = .ok (.ireturn, 1) := by decide +kernel
abbrev y_S_mayEndLoop : MethodName := ⟨"DeckFront$Statement", "mayEndLoop", "()Z"⟩
abbrev b_S_mayEndLoop : ByteArray := prog_4_method_21_code
abbrev w_S_mayEndLoop : List Cond := (Jvm.Cond.code ({ cls := "DeckFront$Statement", name := "mayEndLoop", desc := "()Z" } : Jvm.MethodName) prog_4_method_21_code (1 : Nat) (Option.some Jvm.ClassFile.FieldType.boolean)) :: wG
theorem d_S_mayEndLoop_0 : decode b_S_mayEndLoop 0 = .ok (.aload_n 0, 1) := by decide +kernel
theorem d_S_mayEndLoop_1 : decode b_S_mayEndLoop 1 = .ok (.getfield 22, 3) := by decide +kernel
theorem d_S_mayEndLoop_4 : decode b_S_mayEndLoop 4 = .ok (.iconst 2, 1) := by decide +kernel
theorem d_S_mayEndLoop_5 : decode b_S_mayEndLoop 5 = .ok (.if_icmp .eq 45, 3) := by decide +kernel
theorem d_S_mayEndLoop_8 : decode b_S_mayEndLoop 8 = .ok (.aload_n 0, 1) := by decide +kernel
theorem d_S_mayEndLoop_9 : decode b_S_mayEndLoop 9 = .ok (.getfield 22, 3) := by decide +kernel
theorem d_S_mayEndLoop_12 : decode b_S_mayEndLoop 12 = .ok (.iconst 4, 1) := by decide +kernel
theorem d_S_mayEndLoop_13 : decode b_S_mayEndLoop 13 = .ok (.if_icmp .eq 37, 3) := by decide +kernel
theorem d_S_mayEndLoop_16 : decode b_S_mayEndLoop 16 = .ok (.aload_n 0, 1) := by decide +kernel
theorem d_S_mayEndLoop_17 : decode b_S_mayEndLoop 17 = .ok (.getfield 22, 3) := by decide +kernel
theorem d_S_mayEndLoop_20 : decode b_S_mayEndLoop 20 = .ok (.bipush 8, 2) := by decide +kernel
theorem d_S_mayEndLoop_22 : decode b_S_mayEndLoop 22 = .ok (.if_icmp .eq 28, 3) := by decide +kernel
theorem d_S_mayEndLoop_25 : decode b_S_mayEndLoop 25 = .ok (.aload_n 0, 1) := by decide +kernel
theorem d_S_mayEndLoop_26 : decode b_S_mayEndLoop 26 = .ok (.getfield 22, 3) := by decide +kernel
theorem d_S_mayEndLoop_29 : decode b_S_mayEndLoop 29 = .ok (.bipush 10, 2) := by decide +kernel
theorem d_S_mayEndLoop_31 : decode b_S_mayEndLoop 31 = .ok (.if_icmp .eq 19, 3) := by decide +kernel
theorem d_S_mayEndLoop_34 : decode b_S_mayEndLoop 34 = .ok (.aload_n 0, 1) := by decide +kernel
theorem d_S_mayEndLoop_35 : decode b_S_mayEndLoop 35 = .ok (.getfield 22, 3) := by decide +kernel
theorem d_S_mayEndLoop_38 : decode b_S_mayEndLoop 38 = .ok (.bipush 13, 2) := by decide +kernel
theorem d_S_mayEndLoop_40 : decode b_S_mayEndLoop 40 = .ok (.if_icmp .eq 10, 3) := by decide +kernel
theorem d_S_mayEndLoop_43 : decode b_S_mayEndLoop 43 = .ok (.aload_n 0, 1) := by decide +kernel
theorem d_S_mayEndLoop_44 : decode b_S_mayEndLoop 44 = .ok (.invokevirtual 197, 3) := by decide +kernel
theorem d_S_mayEndLoop_47 : decode b_S_mayEndLoop 47 = .ok (.ifCond .eq 7, 3) := by decide +kernel
theorem d_S_mayEndLoop_50 : decode b_S_mayEndLoop 50 = .ok (.iconst 1, 1) := by decide +kernel
theorem d_S_mayEndLoop_51 : decode b_S_mayEndLoop 51 = .ok (.goto 4, 3) := by decide +kernel
theorem d_S_mayEndLoop_54 : decode b_S_mayEndLoop 54 = .ok (.iconst 0, 1) := by decide +kernel
theorem d_S_mayEndLoop_55 : decode b_S_mayEndLoop 55 = .ok (.ireturn, 1) := by decide +kernel
theorem k_S_18 {a : Cond} : xkV (a :: wG) "DeckFront$Statement" 18 "DeckFront$Statement" y_S_firstThatFits b_S_firstThatFits 3 (Option.some Jvm.ClassFile.FieldType.int) w_S_firstThatFits 1 := ⟨⟨gG tw_537, ⟨_, rfl⟩, cG tw_5, by decide, by decide, by decide +kernel⟩, cG tw_534, cG tw_536, fun _ _ h => h _ (cG tp_1_10)⟩
theorem k_S_27 {a : Cond} : xkU (a :: wG) "DeckFront$Statement" 27 "DeckFront$Statement" "DeckFront$Tape" ({ cls := "DeckFront$Statement", name := "take", desc := "(Ljava/lang/String;)Z" } : Jvm.MethodName) y_T_take b_T_take 2 (Option.some Jvm.ClassFile.FieldType.boolean) w_T_take 1 := ⟨⟨gG tw_554, ⟨_, rfl⟩, cG tw_4, by decide, by decide, by decide +kernel⟩, cG tw_549, cG tw_550, cG tw_553, cG tw_552, rfl⟩
theorem k_S_31 {a : Cond} : xkV (a :: wG) "DeckFront$Statement" 31 "DeckFront$Statement" y_S_expression b_S_expression 7 (Option.some Jvm.ClassFile.FieldType.boolean) w_S_expression 2 := ⟨⟨gG tw_608, ⟨_, rfl⟩, cG tw_5, by decide, by decide, by decide +kernel⟩, cG tw_605, cG tw_607, fun _ _ h => h _ (cG tp_1_12)⟩
theorem k_S_37 {a : Cond} : xkS (a :: wG) "DeckFront$Statement" 37 y_S_mayStandInIf b_S_mayStandInIf 1 (Option.some Jvm.ClassFile.FieldType.boolean) w_S_mayStandInIf 1 := ⟨⟨gG tw_742, ⟨_, rfl⟩, cG tw_5, by decide, by decide, by decide +kernel⟩, cG tw_740, cG tw_741⟩
theorem k_S_41 {a : Cond} : xkU (a :: wG) "DeckFront$Statement" 41 "DeckFront$Statement" "DeckFront$Tape" ({ cls := "DeckFront$Statement", name := "goBackTo", desc := "(I)V" } : Jvm.MethodName) y_T_goBackTo b_T_goBackTo 3 (Option.none : Option Jvm.ClassFile.FieldType) w_T_goBackTo 1 := ⟨⟨gG tw_543, ⟨_, rfl⟩, cG tw_4, by decide, by decide, by decide +kernel⟩, cG tw_538, cG tw_539, cG tw_542, cG tw_541, rfl⟩
theorem k_S_45 {a : Cond} : xkV (a :: wG) "DeckFront$Statement" 45 "DeckFront$Statement" y_S_fits b_S_fits 2 (Option.some Jvm.ClassFile.FieldType.boolean) w_S_fits 1 := ⟨⟨gG tw_547, ⟨_, rfl⟩, cG tw_5, by decide, by decide, by decide +kernel⟩, cG tw_544, cG tw_546, fun _ _ h => h _ (cG tp_1_11)⟩
theorem k_S_50 {a : Cond} : xkU (a :: wG) "DeckFront$Statement" 50 "DeckFront$Statement" "DeckFront$Tape" ({ cls := "DeckFront$Statement", name := "takeDigits", desc := "(II)Z" } : Jvm.MethodName) y_T_takeDigits b_T_takeDigits 5 (Option.some Jvm.ClassFile.FieldType.boolean) w_T_takeDigits 2 := ⟨⟨gG tw_586, ⟨_, rfl⟩, cG tw_4, by decide, by decide, by decide +kernel⟩, cG tw_581, cG tw_582, cG tw_585, cG tw_584, rfl⟩
theorem k_S_53 {a : Cond} : xkU (a :: wG) "DeckFront$Statement" 53 "DeckFront$Statement" "DeckFront$Tape" ({ cls := "DeckFront$Statement", name := "takeIdleComma", desc := "()Z" } : Jvm.MethodName) y_T_takeIdleComma b_T_takeIdleComma 1 (Option.some Jvm.ClassFile.FieldType.boolean) w_T_takeIdleComma 0 := ⟨⟨gG tw_592, ⟨_, rfl⟩, cG tw_4, by decide, by decide, by decide +kernel⟩, cG tw_587, cG tw_588, cG tw_591, cG tw_590, rfl⟩
theorem k_S_57 {a : Cond} : xkU (a :: wG) "DeckFront$Statement" 57 "DeckFront$Statement" "DeckFront$Tape" ({ cls := "DeckFront$Statement", name := "takeName", desc := "(I)Z" } : Jvm.MethodName) y_T_takeName b_T_takeName 4 (Option.some Jvm.ClassFile.FieldType.boolean) w_T_takeName 1 := ⟨⟨gG tw_603, ⟨_, rfl⟩, cG tw_4, by decide, by decide, by decide +kernel⟩, cG tw_598, cG tw_599, cG tw_602, cG tw_601, rfl⟩
theorem k_S_64 {a : Cond} : xkV (a :: wG) "DeckFront$Statement" 64 "DeckFront$Statement" y_S_reference b_S_reference 4 (Option.some Jvm.ClassFile.FieldType.boolean) w_S_reference 2 := ⟨⟨gG tw_670, ⟨_, rfl⟩, cG tw_5, by decide, by decide, by decide +kernel⟩, cG tw_667, cG tw_669, fun _ _ h => h _ (cG tp_2_0)⟩
theorem k_S_82 {a : Cond} : xkU (a :: wG) "DeckFront$Statement" 82 "DeckFront$Statement" "DeckFront$Tape" ({ cls := "DeckFront$Statement", name := "isNext", desc := "(C)Z" } : Jvm.MethodName) y_T_isNext b_T_isNext 2 (Option.some Jvm.ClassFile.FieldType.boolean) w_T_isNext 1 := ⟨⟨gG tw_597, ⟨_, rfl⟩, cG tw_4, by decide, by decide, by decide +kernel⟩, cG tw_659, cG tw_660, cG tw_594, cG tw_662, rfl⟩
theorem k_S_86 {a : Cond} : xkV (a :: wG) "DeckFront$Statement" 86 "DeckFront$Statement" y_S_list b_S_list 2 (Option.some Jvm.ClassFile.FieldType.boolean) w_S_list 1 := ⟨⟨gG tw_675, ⟨_, rfl⟩, cG tw_5, by decide, by decide, by decide +kernel⟩, cG tw_672, cG tw_674, fun _ _ h => h _ (cG tp_2_1)⟩
theorem k_S_95 {a : Cond} : xkV (a :: wG) "DeckFront$Statement" 95 "DeckFront$Statement" y_S_expressions b_S_expressions 4 (Option.some Jvm.ClassFile.FieldType.boolean) w_S_expressions 1 := ⟨⟨gG tw_680, ⟨_, rfl⟩, cG tw_5, by decide, by decide, by decide +kernel⟩, cG tw_677, cG tw_679, fun _ _ h => h _ (cG tp_2_2)⟩
theorem k_S_106 {a : Cond} : xkV (a :: wG) "DeckFront$Statement" 106 "DeckFront$Statement" y_S_series b_S_series 4 (Option.some Jvm.ClassFile.FieldType.boolean) w_S_series 1 := ⟨⟨gG tw_733, ⟨_, rfl⟩, cG tw_5, by decide, by decide, by decide +kernel⟩, cG tw_730, cG tw_732, fun _ _ h => h _ (cG tp_2_5)⟩
theorem k_S_113 {a : Cond} : xkV (a :: wG) "DeckFront$Statement" 113 "DeckFront$Statement" y_S_item b_S_item 2 (Option.some Jvm.ClassFile.FieldType.boolean) w_S_item 1 := ⟨⟨gG tw_737, ⟨_, rfl⟩, cG tw_5, by decide, by decide, by decide +kernel⟩, cG tw_734, cG tw_736, fun _ _ h => h _ (cG tp_2_6)⟩
theorem k_S_118 {a : Cond} : xkV (a :: wG) "DeckFront$Statement" 118 "DeckFront$Statement" y_S_power b_S_power 5 (Option.some Jvm.ClassFile.FieldType.boolean) w_S_power 1 := ⟨⟨gG tw_612, ⟨_, rfl⟩, cG tw_5, by decide, by decide, by decide +kernel⟩, cG tw_609, cG tw_611, fun _ _ h => h _ (cG tp_1_13)⟩
theorem k_S_121 {a : Cond} : xkV (a :: wG) "DeckFront$Statement" 121 "DeckFront$Statement" y_S_takeSignsBefore b_S_takeSignsBefore 4 (Option.some Jvm.ClassFile.FieldType.int) w_S_takeSignsBefore 1 := ⟨⟨gG tw_693, ⟨_, rfl⟩, cG tw_5, by decide, by decide, by decide +kernel⟩, cG tw_690, cG tw_692, fun _ _ h => h _ (cG tp_2_3)⟩
theorem k_S_124 {a : Cond} : xkU (a :: wG) "DeckFront$Statement" 124 "DeckFront$Statement" "DeckFront$Tape" ({ cls := "DeckFront$Statement", name := "close", desc := "(I)V" } : Jvm.MethodName) y_T_close b_T_close 2 (Option.none : Option Jvm.ClassFile.FieldType) w_T_close 1 := ⟨⟨gG tw_689, ⟨_, rfl⟩, cG tw_4, by decide, by decide, by decide +kernel⟩, cG tw_684, cG tw_685, cG tw_688, cG tw_687, rfl⟩
theorem k_S_127 {a : Cond} : xkV (a :: wG) "DeckFront$Statement" 127 "DeckFront$Statement" y_S_takeSignBetween b_S_takeSignBetween 2 (Option.some Jvm.ClassFile.FieldType.boolean) w_S_takeSignBetween 1 := ⟨⟨gG tw_702, ⟨_, rfl⟩, cG tw_5, by decide, by decide, by decide +kernel⟩, cG tw_699, cG tw_701, fun _ _ h => h _ (cG tp_2_4)⟩
theorem k_S_136 {a : Cond} : xkU (a :: wG) "DeckFront$Statement" 136 "DeckFront$Statement" "DeckFront$Tape" ({ cls := "DeckFront$Statement", name := "stands", desc := "(ILjava/lang/String;)Z" } : Jvm.MethodName) y_T_stands b_T_stands 4 (Option.some Jvm.ClassFile.FieldType.boolean) w_T_stands 2 := ⟨⟨gG tw_559, ⟨_, rfl⟩, cG tw_4, by decide, by decide, by decide +kernel⟩, cG tw_695, cG tw_696, cG tw_556, cG tw_698, rfl⟩
theorem k_S_164 {a : Cond} : xkV (a :: wG) "DeckFront$Statement" 164 "DeckFront$Statement" y_S_primary b_S_primary 2 (Option.some Jvm.ClassFile.FieldType.boolean) w_S_primary 1 := ⟨⟨gG tw_616, ⟨_, rfl⟩, cG tw_5, by decide, by decide, by decide +kernel⟩, cG tw_613, cG tw_615, fun _ _ h => h _ (cG tp_1_14)⟩
theorem k_S_169 {a : Cond} : xkU (a :: wG) "DeckFront$Statement" 169 "DeckFront$Statement" "DeckFront$Tape" ({ cls := "DeckFront$Statement", name := "takeDecimal", desc := "()Z" } : Jvm.MethodName) y_T_takeDecimal b_T_takeDecimal 4 (Option.some Jvm.ClassFile.FieldType.boolean) w_T_takeDecimal 0 := ⟨⟨gG tw_622, ⟨_, rfl⟩, cG tw_4, by decide, by decide, by decide +kernel⟩, cG tw_617, cG tw_618, cG tw_621, cG tw_620, rfl⟩
theorem k_S_172 {a : Cond} : xkU (a :: wG) "DeckFront$Statement" 172 "DeckFront$Statement" "DeckFront$Tape" ({ cls := "DeckFront$Statement", name := "takeExponent", desc := "()Z" } : Jvm.MethodName) y_T_takeExponent b_T_takeExponent 3 (Option.some Jvm.ClassFile.FieldType.boolean) w_T_takeExponent 0 := ⟨⟨gG tw_648, ⟨_, rfl⟩, cG tw_4, by decide, by decide, by decide +kernel⟩, cG tw_643, cG tw_644, cG tw_647, cG tw_646, rfl⟩
theorem k_S_179 {a : Cond} : xkU (a :: wG) "DeckFront$Statement" 179 "DeckFront$Statement" "DeckFront$Tape" ({ cls := "DeckFront$Statement", name := "takeQuote", desc := "()Z" } : Jvm.MethodName) y_T_takeQuote b_T_takeQuote 2 (Option.some Jvm.ClassFile.FieldType.boolean) w_T_takeQuote 0 := ⟨⟨gG tw_658, ⟨_, rfl⟩, cG tw_4, by decide, by decide, by decide +kernel⟩, cG tw_653, cG tw_654, cG tw_657, cG tw_656, rfl⟩
theorem k_S_182 {a : Cond} : xkV (a :: wG) "DeckFront$Statement" 182 "DeckFront$Statement" y_S_group b_S_group 2 (Option.some Jvm.ClassFile.FieldType.boolean) w_S_group 1 := ⟨⟨gG tw_666, ⟨_, rfl⟩, cG tw_5, by decide, by decide, by decide +kernel⟩, cG tw_663, cG tw_665, fun _ _ h => h _ (cG tp_1_15)⟩
theorem k_S_194 {a : Cond} : xkU (a :: wG) "DeckFront$Statement" 194 "DeckFront$Statement" "DeckFront$Tape" ({ cls := "DeckFront$Statement", name := "numberAt", desc := "(I)I" } : Jvm.MethodName) y_T_numberAt b_T_numberAt 4 (Option.some Jvm.ClassFile.FieldType.int) w_T_numberAt 1 := ⟨⟨gG tw_383, ⟨_, rfl⟩, cG tw_4, by decide, by decide, by decide +kernel⟩, cG tw_378, cG tw_379, cG tw_382, cG tw_381, rfl⟩
theorem k_S_197 {a : Cond} : xkV (a :: wG) "DeckFront$Statement" 197 "DeckFront$Statement" y_S_declares b_S_declares 1 (Option.some Jvm.ClassFile.FieldType.boolean) w_S_declares 0 := ⟨⟨gG tw_344, ⟨_, rfl⟩, cG tw_5, by decide, by decide, by decide +kernel⟩, cG tw_365, cG tw_342, fun _ _ h => h _ (cG tw_343)⟩

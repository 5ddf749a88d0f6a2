abbrev y_JS_length : MethodName := ⟨"java/lang/String", "length", "()I"⟩
abbrev b_JS_length : ByteArray := prog_15_method_54_code
abbrev w_JS_length : List Cond := (Jvm.Cond.code ({ cls := "java/lang/String", name := "length", desc := "()I" } : Jvm.MethodName) prog_15_method_54_code (1 : Nat) (Option.some Jvm.ClassFile.FieldType.int)) :: wG
theorem d_JS_length_0 : decode b_JS_length 0 = .ok (.aload_n 0, 1) := by decide +kernel
theorem d_JS_length_1 : decode b_JS_length 1 = .ok (.getfield 9, 3) := by decide +kernel
theorem d_JS_length_4 : decode b_JS_length 4 = .ok (.arraylength, 1) := by decide +kernel
theorem d_JS_length_5 : decode b_JS_length 5 = .ok (.aload_n 0, 1) := by decide +kernel
theorem d_JS_length_6 : decode b_JS_length 6 = .ok (.invokevirtual 335, 3) := by decide +kernel
theorem d_JS_length_9 : decode b_JS_length 9 = .ok (.ishr, 1) := by decide +kernel
theorem d_JS_length_10 : decode b_JS_length 10 = .ok (.ireturn, 1) := by decide +kernel
abbrev y_JS_coder : MethodName := ⟨"java/lang/String", "coder", "()B"⟩
abbrev b_JS_coder : ByteArray := prog_15_method_152_code
abbrev w_JS_coder : List Cond := (Jvm.Cond.code ({ cls := "java/lang/String", name := "coder", desc := "()B" } : Jvm.MethodName) prog_15_method_152_code (1 : Nat) (Option.some Jvm.ClassFile.FieldType.byte)) :: wG
theorem d_JS_coder_0 : decode b_JS_coder 0 = .ok (.getstatic 38, 3) := by decide +kernel
theorem d_JS_coder_3 : decode b_JS_coder 3 = .ok (.ifCond .eq 10, 3) := by decide +kernel
theorem d_JS_coder_6 : decode b_JS_coder 6 = .ok (.aload_n 0, 1) := by decide +kernel
theorem d_JS_coder_7 : decode b_JS_coder 7 = .ok (.getfield 15, 3) := by decide +kernel
theorem d_JS_coder_10 : decode b_JS_coder 10 = .ok (.goto 4, 3) := by decide +kernel
theorem d_JS_coder_13 : decode b_JS_coder 13 = .ok (.iconst 1, 1) := by decide +kernel
theorem d_JS_coder_14 : decode b_JS_coder 14 = .ok (.ireturn, 1) := by decide +kernel
abbrev y_JS_isLatin1 : MethodName := ⟨"java/lang/String", "isLatin1", "()Z"⟩
abbrev b_JS_isLatin1 : ByteArray := prog_15_method_154_code
abbrev w_JS_isLatin1 : List Cond := (Jvm.Cond.code ({ cls := "java/lang/String", name := "isLatin1", desc := "()Z" } : Jvm.MethodName) prog_15_method_154_code (1 : Nat) (Option.some Jvm.ClassFile.FieldType.boolean)) :: wG
theorem d_JS_isLatin1_0 : decode b_JS_isLatin1 0 = .ok (.getstatic 38, 3) := by decide +kernel
theorem d_JS_isLatin1_3 : decode b_JS_isLatin1 3 = .ok (.ifCond .eq 14, 3) := by decide +kernel
theorem d_JS_isLatin1_6 : decode b_JS_isLatin1 6 = .ok (.aload_n 0, 1) := by decide +kernel
theorem d_JS_isLatin1_7 : decode b_JS_isLatin1 7 = .ok (.getfield 15, 3) := by decide +kernel
theorem d_JS_isLatin1_10 : decode b_JS_isLatin1 10 = .ok (.ifCond .ne 7, 3) := by decide +kernel
theorem d_JS_isLatin1_13 : decode b_JS_isLatin1 13 = .ok (.iconst 1, 1) := by decide +kernel
theorem d_JS_isLatin1_14 : decode b_JS_isLatin1 14 = .ok (.goto 4, 3) := by decide +kernel
theorem d_JS_isLatin1_17 : decode b_JS_isLatin1 17 = .ok (.iconst 0, 1) := by decide +kernel
theorem d_JS_isLatin1_18 : decode b_JS_isLatin1 18 = .ok (.ireturn, 1) := by decide +kernel
abbrev y_JS_charAt : MethodName := ⟨"java/lang/String", "charAt", "(I)C"⟩
abbrev b_JS_charAt : ByteArray := prog_15_method_56_code
abbrev w_JS_charAt : List Cond := (Jvm.Cond.code ({ cls := "java/lang/String", name := "charAt", desc := "(I)C" } : Jvm.MethodName) prog_15_method_56_code (2 : Nat) (Option.some Jvm.ClassFile.FieldType.char)) :: wG
theorem d_JS_charAt_0 : decode b_JS_charAt 0 = .ok (.aload_n 0, 1) := by decide +kernel
theorem d_JS_charAt_1 : decode b_JS_charAt 1 = .ok (.invokevirtual 492, 3) := by decide +kernel
theorem d_JS_charAt_4 : decode b_JS_charAt 4 = .ok (.ifCond .eq 12, 3) := by decide +kernel
theorem d_JS_charAt_7 : decode b_JS_charAt 7 = .ok (.aload_n 0, 1) := by decide +kernel
theorem d_JS_charAt_8 : decode b_JS_charAt 8 = .ok (.getfield 9, 3) := by decide +kernel
theorem d_JS_charAt_11 : decode b_JS_charAt 11 = .ok (.iload_n 1, 1) := by decide +kernel
theorem d_JS_charAt_12 : decode b_JS_charAt 12 = .ok (.invokestatic 495, 3) := by decide +kernel
theorem d_JS_charAt_15 : decode b_JS_charAt 15 = .ok (.ireturn, 1) := by decide +kernel
theorem d_JS_charAt_16 : decode b_JS_charAt 16 = .ok (.aload_n 0, 1) := by decide +kernel
theorem d_JS_charAt_17 : decode b_JS_charAt 17 = .ok (.getfield 9, 3) := by decide +kernel
theorem d_JS_charAt_20 : decode b_JS_charAt 20 = .ok (.iload_n 1, 1) := by decide +kernel
theorem d_JS_charAt_21 : decode b_JS_charAt 21 = .ok (.invokestatic 498, 3) := by decide +kernel
theorem d_JS_charAt_24 : decode b_JS_charAt 24 = .ok (.ireturn, 1) := by decide +kernel
abbrev y_JS_indexOf0 : MethodName := ⟨"java/lang/String", "indexOf", "(I)I"⟩
abbrev b_JS_indexOf0 : ByteArray := prog_15_method_79_code
abbrev w_JS_indexOf0 : List Cond := (Jvm.Cond.code ({ cls := "java/lang/String", name := "indexOf", desc := "(I)I" } : Jvm.MethodName) prog_15_method_79_code (2 : Nat) (Option.some Jvm.ClassFile.FieldType.int)) :: wG
theorem d_JS_indexOf0_0 : decode b_JS_indexOf0 0 = .ok (.aload_n 0, 1) := by decide +kernel
theorem d_JS_indexOf0_1 : decode b_JS_indexOf0 1 = .ok (.iload_n 1, 1) := by decide +kernel
theorem d_JS_indexOf0_2 : decode b_JS_indexOf0 2 = .ok (.iconst 0, 1) := by decide +kernel
theorem d_JS_indexOf0_3 : decode b_JS_indexOf0 3 = .ok (.invokevirtual 633, 3) := by decide +kernel
theorem d_JS_indexOf0_6 : decode b_JS_indexOf0 6 = .ok (.ireturn, 1) := by decide +kernel
abbrev y_JS_indexOf1 : MethodName := ⟨"java/lang/String", "indexOf", "(II)I"⟩
abbrev b_JS_indexOf1 : ByteArray := prog_15_method_80_code
abbrev w_JS_indexOf1 : List Cond := (Jvm.Cond.code ({ cls := "java/lang/String", name := "indexOf", desc := "(II)I" } : Jvm.MethodName) prog_15_method_80_code (3 : Nat) (Option.some Jvm.ClassFile.FieldType.int)) :: wG
theorem d_JS_indexOf1_0 : decode b_JS_indexOf1 0 = .ok (.aload_n 0, 1) := by decide +kernel
theorem d_JS_indexOf1_1 : decode b_JS_indexOf1 1 = .ok (.invokevirtual 492, 3) := by decide +kernel
theorem d_JS_indexOf1_4 : decode b_JS_indexOf1 4 = .ok (.ifCond .eq 19, 3) := by decide +kernel
theorem d_JS_indexOf1_7 : decode b_JS_indexOf1 7 = .ok (.aload_n 0, 1) := by decide +kernel
theorem d_JS_indexOf1_8 : decode b_JS_indexOf1 8 = .ok (.getfield 9, 3) := by decide +kernel
theorem d_JS_indexOf1_11 : decode b_JS_indexOf1 11 = .ok (.iload_n 1, 1) := by decide +kernel
theorem d_JS_indexOf1_12 : decode b_JS_indexOf1 12 = .ok (.iload_n 2, 1) := by decide +kernel
theorem d_JS_indexOf1_13 : decode b_JS_indexOf1 13 = .ok (.aload_n 0, 1) := by decide +kernel
theorem d_JS_indexOf1_14 : decode b_JS_indexOf1 14 = .ok (.invokevirtual 505, 3) := by decide +kernel
theorem d_JS_indexOf1_17 : decode b_JS_indexOf1 17 = .ok (.invokestatic 637, 3) := by decide +kernel
theorem d_JS_indexOf1_20 : decode b_JS_indexOf1 20 = .ok (.goto 16, 3) := by decide +kernel
theorem d_JS_indexOf1_23 : decode b_JS_indexOf1 23 = .ok (.aload_n 0, 1) := by decide +kernel
theorem d_JS_indexOf1_24 : decode b_JS_indexOf1 24 = .ok (.getfield 9, 3) := by decide +kernel
theorem d_JS_indexOf1_27 : decode b_JS_indexOf1 27 = .ok (.iload_n 1, 1) := by decide +kernel
theorem d_JS_indexOf1_28 : decode b_JS_indexOf1 28 = .ok (.iload_n 2, 1) := by decide +kernel
theorem d_JS_indexOf1_29 : decode b_JS_indexOf1 29 = .ok (.aload_n 0, 1) := by decide +kernel
theorem d_JS_indexOf1_30 : decode b_JS_indexOf1 30 = .ok (.invokevirtual 505, 3) := by decide +kernel
theorem d_JS_indexOf1_33 : decode b_JS_indexOf1 33 = .ok (.invokestatic 640, 3) := by decide +kernel
theorem d_JS_indexOf1_36 : decode b_JS_indexOf1 36 = .ok (.ireturn, 1) := by decide +kernel
abbrev y_JS_checkIndex : MethodName := ⟨"java/lang/String", "checkIndex", "(II)V"⟩
abbrev b_JS_checkIndex : ByteArray := prog_15_method_155_code
abbrev w_JS_checkIndex : List Cond := (Jvm.Cond.code ({ cls := "java/lang/String", name := "checkIndex", desc := "(II)V" } : Jvm.MethodName) prog_15_method_155_code (2 : Nat) (Option.none : Option Jvm.ClassFile.FieldType)) :: wG
theorem d_JS_checkIndex_0 : decode b_JS_checkIndex 0 = .ok (.iload_n 0, 1) := by decide +kernel
theorem d_JS_checkIndex_1 : decode b_JS_checkIndex 1 = .ok (.iload_n 1, 1) := by decide +kernel
theorem d_JS_checkIndex_2 : decode b_JS_checkIndex 2 = .ok (.getstatic 1053, 3) := by decide +kernel
theorem d_JS_checkIndex_5 : decode b_JS_checkIndex 5 = .ok (.invokestatic 1059, 3) := by decide +kernel
theorem d_JS_checkIndex_8 : decode b_JS_checkIndex 8 = .ok (.pop, 1) := by decide +kernel
theorem d_JS_checkIndex_9 : decode b_JS_checkIndex 9 = .ok (.return_, 1) := by decide +kernel
abbrev y_JL_charAt : MethodName := ⟨"java/lang/StringLatin1", "charAt", "([BI)C"⟩
abbrev b_JL_charAt : ByteArray := prog_16_method_2_code
abbrev w_JL_charAt : List Cond := (Jvm.Cond.code ({ cls := "java/lang/StringLatin1", name := "charAt", desc := "([BI)C" } : Jvm.MethodName) prog_16_method_2_code (2 : Nat) (Option.some Jvm.ClassFile.FieldType.char)) :: wG
theorem d_JL_charAt_0 : decode b_JL_charAt 0 = .ok (.iload_n 1, 1) := by decide +kernel
theorem d_JL_charAt_1 : decode b_JL_charAt 1 = .ok (.aload_n 0, 1) := by decide +kernel
theorem d_JL_charAt_2 : decode b_JL_charAt 2 = .ok (.arraylength, 1) := by decide +kernel
theorem d_JL_charAt_3 : decode b_JL_charAt 3 = .ok (.invokestatic 9, 3) := by decide +kernel
theorem d_JL_charAt_6 : decode b_JL_charAt 6 = .ok (.aload_n 0, 1) := by decide +kernel
theorem d_JL_charAt_7 : decode b_JL_charAt 7 = .ok (.iload_n 1, 1) := by decide +kernel
theorem d_JL_charAt_8 : decode b_JL_charAt 8 = .ok (.baload, 1) := by decide +kernel
theorem d_JL_charAt_9 : decode b_JL_charAt 9 = .ok (.sipush 255, 3) := by decide +kernel
theorem d_JL_charAt_12 : decode b_JL_charAt 12 = .ok (.iand, 1) := by decide +kernel
theorem d_JL_charAt_13 : decode b_JL_charAt 13 = .ok (.i2c, 1) := by decide +kernel
theorem d_JL_charAt_14 : decode b_JL_charAt 14 = .ok (.ireturn, 1) := by decide +kernel
abbrev y_JL_canEncode : MethodName := ⟨"java/lang/StringLatin1", "canEncode", "(I)Z"⟩
abbrev b_JL_canEncode : ByteArray := prog_16_method_4_code
abbrev w_JL_canEncode : List Cond := (Jvm.Cond.code ({ cls := "java/lang/StringLatin1", name := "canEncode", desc := "(I)Z" } : Jvm.MethodName) prog_16_method_4_code (1 : Nat) (Option.some Jvm.ClassFile.FieldType.boolean)) :: wG
theorem d_JL_canEncode_0 : decode b_JL_canEncode 0 = .ok (.iload_n 0, 1) := by decide +kernel
theorem d_JL_canEncode_1 : decode b_JL_canEncode 1 = .ok (.ifCond .lt 14, 3) := by decide +kernel
theorem d_JL_canEncode_4 : decode b_JL_canEncode 4 = .ok (.iload_n 0, 1) := by decide +kernel
theorem d_JL_canEncode_5 : decode b_JL_canEncode 5 = .ok (.sipush 255, 3) := by decide +kernel
theorem d_JL_canEncode_8 : decode b_JL_canEncode 8 = .ok (.if_icmp .gt 7, 3) := by decide +kernel
theorem d_JL_canEncode_11 : decode b_JL_canEncode 11 = .ok (.iconst 1, 1) := by decide +kernel
theorem d_JL_canEncode_12 : decode b_JL_canEncode 12 = .ok (.goto 4, 3) := by decide +kernel
theorem d_JL_canEncode_15 : decode b_JL_canEncode 15 = .ok (.iconst 0, 1) := by decide +kernel
theorem d_JL_canEncode_16 : decode b_JL_canEncode 16 = .ok (.ireturn, 1) := by decide +kernel
abbrev y_JL_indexOf : MethodName := ⟨"java/lang/StringLatin1", "indexOf", "([BIII)I"⟩
abbrev b_JL_indexOf : ByteArray := prog_16_method_22_code
abbrev w_JL_indexOf : List Cond := (Jvm.Cond.code ({ cls := "java/lang/StringLatin1", name := "indexOf", desc := "([BIII)I" } : Jvm.MethodName) prog_16_method_22_code (4 : Nat) (Option.some Jvm.ClassFile.FieldType.int)) :: wG
theorem d_JL_indexOf_0 : decode b_JL_indexOf 0 = .ok (.iload_n 1, 1) := by decide +kernel
theorem d_JL_indexOf_1 : decode b_JL_indexOf 1 = .ok (.invokestatic 88, 3) := by decide +kernel
theorem d_JL_indexOf_4 : decode b_JL_indexOf 4 = .ok (.ifCond .ne 5, 3) := by decide +kernel
theorem d_JL_indexOf_7 : decode b_JL_indexOf 7 = .ok (.iconst (-1), 1) := by decide +kernel
theorem d_JL_indexOf_8 : decode b_JL_indexOf 8 = .ok (.ireturn, 1) := by decide +kernel
theorem d_JL_indexOf_9 : decode b_JL_indexOf 9 = .ok (.iload_n 2, 1) := by decide +kernel
theorem d_JL_indexOf_10 : decode b_JL_indexOf 10 = .ok (.iconst 0, 1) := by decide +kernel
theorem d_JL_indexOf_11 : decode b_JL_indexOf 11 = .ok (.invokestatic 92, 3) := by decide +kernel
theorem d_JL_indexOf_14 : decode b_JL_indexOf 14 = .ok (.istore_n 2, 1) := by decide +kernel
theorem d_JL_indexOf_15 : decode b_JL_indexOf 15 = .ok (.iload_n 3, 1) := by decide +kernel
theorem d_JL_indexOf_16 : decode b_JL_indexOf 16 = .ok (.aload_n 0, 1) := by decide +kernel
theorem d_JL_indexOf_17 : decode b_JL_indexOf 17 = .ok (.arraylength, 1) := by decide +kernel
theorem d_JL_indexOf_18 : decode b_JL_indexOf 18 = .ok (.invokestatic 38, 3) := by decide +kernel
theorem d_JL_indexOf_21 : decode b_JL_indexOf 21 = .ok (.istore_n 3, 1) := by decide +kernel
theorem d_JL_indexOf_22 : decode b_JL_indexOf 22 = .ok (.iload_n 2, 1) := by decide +kernel
theorem d_JL_indexOf_23 : decode b_JL_indexOf 23 = .ok (.iload_n 3, 1) := by decide +kernel
theorem d_JL_indexOf_24 : decode b_JL_indexOf 24 = .ok (.if_icmp .lt 5, 3) := by decide +kernel
theorem d_JL_indexOf_27 : decode b_JL_indexOf 27 = .ok (.iconst (-1), 1) := by decide +kernel
theorem d_JL_indexOf_28 : decode b_JL_indexOf 28 = .ok (.ireturn, 1) := by decide +kernel
theorem d_JL_indexOf_29 : decode b_JL_indexOf 29 = .ok (.aload_n 0, 1) := by decide +kernel
theorem d_JL_indexOf_30 : decode b_JL_indexOf 30 = .ok (.iload_n 1, 1) := by decide +kernel
theorem d_JL_indexOf_31 : decode b_JL_indexOf 31 = .ok (.iload_n 2, 1) := by decide +kernel
theorem d_JL_indexOf_32 : decode b_JL_indexOf 32 = .ok (.iload_n 3, 1) := by decide +kernel
theorem d_JL_indexOf_33 : decode b_JL_indexOf 33 = .ok (.invokestatic 95, 3) := by decide +kernel
theorem d_JL_indexOf_36 : decode b_JL_indexOf 36 = .ok (.ireturn, 1) := by decide +kernel
abbrev y_JL_indexOfChar : MethodName := ⟨"java/lang/StringLatin1", "indexOfChar", "([BIII)I"⟩
abbrev b_JL_indexOfChar : ByteArray := prog_16_method_23_code
abbrev w_JL_indexOfChar : List Cond := (Jvm.Cond.code ({ cls := "java/lang/StringLatin1", name := "indexOfChar", desc := "([BIII)I" } : Jvm.MethodName) prog_16_method_23_code (6 : Nat) (Option.some Jvm.ClassFile.FieldType.int)) :: wG
theorem d_JL_indexOfChar_0 : decode b_JL_indexOfChar 0 = .ok (.iload_n 1, 1) := by decide +kernel
theorem d_JL_indexOfChar_1 : decode b_JL_indexOfChar 1 = .ok (.i2b, 1) := by decide +kernel
theorem d_JL_indexOfChar_2 : decode b_JL_indexOfChar 2 = .ok (.istore 4, 2) := by decide +kernel
theorem d_JL_indexOfChar_4 : decode b_JL_indexOfChar 4 = .ok (.iload_n 2, 1) := by decide +kernel
theorem d_JL_indexOfChar_5 : decode b_JL_indexOfChar 5 = .ok (.istore 5, 2) := by decide +kernel
theorem d_JL_indexOfChar_7 : decode b_JL_indexOfChar 7 = .ok (.iload 5, 2) := by decide +kernel
theorem d_JL_indexOfChar_9 : decode b_JL_indexOfChar 9 = .ok (.iload_n 3, 1) := by decide +kernel
theorem d_JL_indexOfChar_10 : decode b_JL_indexOfChar 10 = .ok (.if_icmp .ge 21, 3) := by decide +kernel
theorem d_JL_indexOfChar_13 : decode b_JL_indexOfChar 13 = .ok (.aload_n 0, 1) := by decide +kernel
theorem d_JL_indexOfChar_14 : decode b_JL_indexOfChar 14 = .ok (.iload 5, 2) := by decide +kernel
theorem d_JL_indexOfChar_16 : decode b_JL_indexOfChar 16 = .ok (.baload, 1) := by decide +kernel
theorem d_JL_indexOfChar_17 : decode b_JL_indexOfChar 17 = .ok (.iload 4, 2) := by decide +kernel
theorem d_JL_indexOfChar_19 : decode b_JL_indexOfChar 19 = .ok (.if_icmp .ne 6, 3) := by decide +kernel
theorem d_JL_indexOfChar_22 : decode b_JL_indexOfChar 22 = .ok (.iload 5, 2) := by decide +kernel
theorem d_JL_indexOfChar_24 : decode b_JL_indexOfChar 24 = .ok (.ireturn, 1) := by decide +kernel
theorem d_JL_indexOfChar_25 : decode b_JL_indexOfChar 25 = .ok (.iinc 5 1, 3) := by decide +kernel
theorem d_JL_indexOfChar_28 : decode b_JL_indexOfChar 28 = .ok (.goto (-21), 3) := by decide +kernel
theorem d_JL_indexOfChar_31 : decode b_JL_indexOfChar 31 = .ok (.iconst (-1), 1) := by decide +kernel
theorem d_JL_indexOfChar_32 : decode b_JL_indexOfChar 32 = .ok (.ireturn, 1) := by decide +kernel
abbrev y_JP_checkIndex : MethodName := ⟨"jdk/internal/util/Preconditions", "checkIndex", "(IILjava/util/function/BiFunction;)I"⟩
abbrev b_JP_checkIndex : ByteArray := prog_19_method_11_code
abbrev w_JP_checkIndex : List Cond := (Jvm.Cond.code ({ cls := "jdk/internal/util/Preconditions", name := "checkIndex", desc := "(IILjava/util/function/BiFunction;)I" } : Jvm.MethodName) prog_19_method_11_code (3 : Nat) (Option.some Jvm.ClassFile.FieldType.int)) :: wG
theorem d_JP_checkIndex_0 : decode b_JP_checkIndex 0 = .ok (.iload_n 0, 1) := by decide +kernel
theorem d_JP_checkIndex_1 : decode b_JP_checkIndex 1 = .ok (.ifCond .lt 8, 3) := by decide +kernel
theorem d_JP_checkIndex_4 : decode b_JP_checkIndex 4 = .ok (.iload_n 0, 1) := by decide +kernel
theorem d_JP_checkIndex_5 : decode b_JP_checkIndex 5 = .ok (.iload_n 1, 1) := by decide +kernel
theorem d_JP_checkIndex_6 : decode b_JP_checkIndex 6 = .ok (.if_icmp .lt 10, 3) := by decide +kernel
theorem d_JP_checkIndex_9 : decode b_JP_checkIndex 9 = .ok (.aload_n 2, 1) := by decide +kernel
theorem d_JP_checkIndex_10 : decode b_JP_checkIndex 10 = .ok (.iload_n 0, 1) := by decide +kernel
theorem d_JP_checkIndex_11 : decode b_JP_checkIndex 11 = .ok (.iload_n 1, 1) := by decide +kernel
theorem d_JP_checkIndex_12 : decode b_JP_checkIndex 12 = .ok (.invokestatic 95, 3) := by decide +kernel
theorem d_JP_checkIndex_15 : decode b_JP_checkIndex 15 = .ok (.athrow, 1) := by decide +kernel
theorem d_JP_checkIndex_16 : decode b_JP_checkIndex 16 = .ok (.iload_n 0, 1) := by decide +kernel
theorem d_JP_checkIndex_17 : decode b_JP_checkIndex 17 = .ok (.ireturn, 1) := by decide +kernel
theorem k_JS_335 {a : Cond} : xkV (a :: wG) "java/lang/String" 335 "java/lang/String" y_JS_coder b_JS_coder 1 (Option.some Jvm.ClassFile.FieldType.byte) w_JS_coder 0 := ⟨⟨gG tw_186, ⟨_, rfl⟩, cG tw_8, by decide, by decide, by decide +kernel⟩, cG tw_183, cG tw_184, fun _ _ h => h _ (cG tw_185)⟩
theorem k_JS_492 {a : Cond} : xkV (a :: wG) "java/lang/String" 492 "java/lang/String" y_JS_isLatin1 b_JS_isLatin1 1 (Option.some Jvm.ClassFile.FieldType.boolean) w_JS_isLatin1 0 := ⟨⟨gG tw_176, ⟨_, rfl⟩, cG tw_8, by decide, by decide, by decide +kernel⟩, cG tw_173, cG tw_174, fun _ _ h => h _ (cG tw_175)⟩
theorem k_JS_495 {a : Cond} : xkS (a :: wG) "java/lang/String" 495 y_JL_charAt b_JL_charAt 2 (Option.some Jvm.ClassFile.FieldType.char) w_JL_charAt 2 := ⟨⟨gG tw_567, ⟨_, rfl⟩, cG tw_9, by decide, by decide, by decide +kernel⟩, cG tw_565, cG tw_566⟩
theorem k_JS_633 {a : Cond} : xkV (a :: wG) "java/lang/String" 633 "java/lang/String" y_JS_indexOf1 b_JS_indexOf1 3 (Option.some Jvm.ClassFile.FieldType.int) w_JS_indexOf1 2 := ⟨⟨gG tw_172, ⟨_, rfl⟩, cG tw_8, by decide, by decide, by decide +kernel⟩, cG tw_169, cG tw_170, fun _ _ h => h _ (cG tw_171)⟩
theorem k_JS_505 {a : Cond} : xkV (a :: wG) "java/lang/String" 505 "java/lang/String" y_JS_length b_JS_length 1 (Option.some Jvm.ClassFile.FieldType.int) w_JS_length 0 := ⟨⟨gG tw_182, ⟨_, rfl⟩, cG tw_8, by decide, by decide, by decide +kernel⟩, cG tw_179, cG tw_180, fun _ _ h => h _ (cG tw_181)⟩
theorem k_JS_637 {a : Cond} : xkS (a :: wG) "java/lang/String" 637 y_JL_indexOf b_JL_indexOf 4 (Option.some Jvm.ClassFile.FieldType.int) w_JL_indexOf 4 := ⟨⟨gG tw_189, ⟨_, rfl⟩, cG tw_9, by decide, by decide, by decide +kernel⟩, cG tw_187, cG tw_188⟩
theorem k_JS_1059 {a : Cond} : xkS (a :: wG) "java/lang/String" 1059 y_JP_checkIndex b_JP_checkIndex 3 (Option.some Jvm.ClassFile.FieldType.int) w_JP_checkIndex 3 := ⟨⟨gG tw_573, ⟨_, rfl⟩, cG tw_12, by decide, by decide, by decide +kernel⟩, cG tw_571, cG tw_572⟩
theorem k_JL_9 {a : Cond} : xkS (a :: wG) "java/lang/StringLatin1" 9 y_JS_checkIndex b_JS_checkIndex 2 (Option.none : Option Jvm.ClassFile.FieldType) w_JS_checkIndex 2 := ⟨⟨gG tw_570, ⟨_, rfl⟩, cG tw_8, by decide, by decide, by decide +kernel⟩, cG tw_568, cG tw_569⟩
theorem k_JL_88 {a : Cond} : xkS (a :: wG) "java/lang/StringLatin1" 88 y_JL_canEncode b_JL_canEncode 1 (Option.some Jvm.ClassFile.FieldType.boolean) w_JL_canEncode 1 := ⟨⟨gG tw_192, ⟨_, rfl⟩, cG tw_9, by decide, by decide, by decide +kernel⟩, cG tw_190, cG tw_191⟩
theorem k_JL_95 {a : Cond} : xkS (a :: wG) "java/lang/StringLatin1" 95 y_JL_indexOfChar b_JL_indexOfChar 6 (Option.some Jvm.ClassFile.FieldType.int) w_JL_indexOfChar 4 := ⟨⟨gG tw_201, ⟨_, rfl⟩, cG tw_9, by decide, by decide, by decide +kernel⟩, cG tw_199, cG tw_200⟩
theorem lenS_all : ∀ i, i < 56 → lenS i < 100 := by decide +kernel
theorem lenS_lt (i : Nat) : lenS i < 100 := by
  by_cases h : i < 56
  · exact lenS_all i h
  · have : strJ.length = 56 := rfl
    have e : strQ i = ("", 0, "", []) := by
      unfold strQ
      rw [List.getD_eq_getElem?_getD, List.getElem?_eq_none (by omega)]
      rfl
    unfold lenS
    rw [e]
    decide
def P_JS_coder (post : Int32 → Unit → Prop) (i : Nat) (u : Unit) : Prop := post 0 u
set_option maxHeartbeats 600000 in
set_option maxRecDepth 100000 in
theorem c_JS_coder (l : Launch) (D : va_G) (cs : Nat → ClassId) (Ev : (Nat → Prop) → State → Prop) (hE : xEok Ev) (adK adV : Nat → Nat) (fm : Option Nat) (X : xEv adK adV fm Ev) (i : Nat) (hi : i < 56) (d : Nat) (post : Int32 → Unit → Prop) (u : Unit) (h : P_JS_coder post i  u) : xC l D clX (tysX cs) Ev y_JS_coder w_JS_coder (rmD (d + 0)) wd0 [.ref (adK i)] u (pI post) 0 0 := by
  unfold P_JS_coder at h
  refine xC.of (cc := b_JS_coder) (nL := 1) (ret := (some .byte)) (by decide) rfl (Nat.le_of_ble_eq_true rfl) ?_
  show RR l D clX (tysX cs) Ev "java/lang/String" b_JS_coder 1 w_JS_coder (rmD (d + 0)) (some .byte) wd0 (pI post) 0 0 0 0 0 [(0, .ref (adK i))] [] u
  refine x_gets (v := .int 1) (fun A s h9 => (X A s h9).1.1) (cG tw_177) d_JS_coder_0 ?_
  refine x_if_eq (tgt := 13) d_JS_coder_3 rfl (fun hc => absurd hc (by decide)) (fun _ => ?_)
  refine x_aload_n (x := (adK i)) d_JS_coder_6 rfl ?_
  refine x_getO (v := .int 0) (fun A s h9 => ((X A s h9).2.1 i hi).2.2.1) (cG tw_1147) d_JS_coder_7 ?_
  refine x_goto (tgt := 14) d_JS_coder_10 rfl ?_
  refine x_zret rfl d_JS_coder_14 ⟨_, rfl, ?_⟩
  exact h
theorem cf_JS_coder (l : Launch) (D : va_G) (cs : Nat → ClassId) (Ev : (Nat → Prop) → State → Prop) (hE : xEok Ev) (adK adV : Nat → Nat) (fm : Option Nat) (X : xEv adK adV fm Ev) (i : Nat) (hi : i < 56) (d : Nat) : xC l D clX (tysX cs) Ev y_JS_coder w_JS_coder (rmD (d + 0)) wd0 [.ref (adK i)] () (pI (fun r u1 => r = 0 ∧ () = u1)) 0 0 := by
  refine c_JS_coder l D cs Ev hE adK adV fm X i hi d _ () ?_
  exact ⟨rfl, rfl⟩
def P_JS_isLatin1 (post : Int32 → Unit → Prop) (i : Nat) (u : Unit) : Prop := post 1 u
set_option maxHeartbeats 600000 in
set_option maxRecDepth 100000 in
theorem c_JS_isLatin1 (l : Launch) (D : va_G) (cs : Nat → ClassId) (Ev : (Nat → Prop) → State → Prop) (hE : xEok Ev) (adK adV : Nat → Nat) (fm : Option Nat) (X : xEv adK adV fm Ev) (i : Nat) (hi : i < 56) (d : Nat) (post : Int32 → Unit → Prop) (u : Unit) (h : P_JS_isLatin1 post i  u) : xC l D clX (tysX cs) Ev y_JS_isLatin1 w_JS_isLatin1 (rmD (d + 0)) wd0 [.ref (adK i)] u (pI post) 0 0 := by
  unfold P_JS_isLatin1 at h
  refine xC.of (cc := b_JS_isLatin1) (nL := 1) (ret := (some .boolean)) (by decide) rfl (Nat.le_of_ble_eq_true rfl) ?_
  show RR l D clX (tysX cs) Ev "java/lang/String" b_JS_isLatin1 1 w_JS_isLatin1 (rmD (d + 0)) (some .boolean) wd0 (pI post) 0 0 0 0 0 [(0, .ref (adK i))] [] u
  refine x_gets (v := .int 1) (fun A s h9 => (X A s h9).1.1) (cG tw_177) d_JS_isLatin1_0 ?_
  refine x_if_eq (tgt := 17) d_JS_isLatin1_3 rfl (fun hc => absurd hc (by decide)) (fun _ => ?_)
  refine x_aload_n (x := (adK i)) d_JS_isLatin1_6 rfl ?_
  refine x_getO (v := .int 0) (fun A s h9 => ((X A s h9).2.1 i hi).2.2.1) (cG tw_1147) d_JS_isLatin1_7 ?_
  refine x_if_ne (tgt := 17) d_JS_isLatin1_10 rfl (fun hc => absurd hc (by decide)) (fun _ => ?_)
  refine x_iconst (v := 1) d_JS_isLatin1_13 (by decide) ?_
  refine x_goto (tgt := 18) d_JS_isLatin1_14 rfl ?_
  refine x_zret rfl d_JS_isLatin1_18 ⟨_, rfl, ?_⟩
  exact h
theorem cf_JS_isLatin1 (l : Launch) (D : va_G) (cs : Nat → ClassId) (Ev : (Nat → Prop) → State → Prop) (hE : xEok Ev) (adK adV : Nat → Nat) (fm : Option Nat) (X : xEv adK adV fm Ev) (i : Nat) (hi : i < 56) (d : Nat) : xC l D clX (tysX cs) Ev y_JS_isLatin1 w_JS_isLatin1 (rmD (d + 0)) wd0 [.ref (adK i)] () (pI (fun r u1 => r = 1 ∧ () = u1)) 0 0 := by
  refine c_JS_isLatin1 l D cs Ev hE adK adV fm X i hi d _ () ?_
  exact ⟨rfl, rfl⟩
def P_JS_length (post : Int32 → Unit → Prop) (i : Nat) (u : Unit) : Prop := post ((nI (lenS i)) >>> ((0 : Int32) &&& 31)) u
set_option maxHeartbeats 600000 in
set_option maxRecDepth 100000 in
theorem c_JS_length (l : Launch) (D : va_G) (cs : Nat → ClassId) (Ev : (Nat → Prop) → State → Prop) (hE : xEok Ev) (adK adV : Nat → Nat) (fm : Option Nat) (X : xEv adK adV fm Ev) (i : Nat) (hi : i < 56) (d : Nat) (post : Int32 → Unit → Prop) (u : Unit) (h : P_JS_length post i  u) : xC l D clX (tysX cs) Ev y_JS_length w_JS_length (rmD (d + 1)) wd0 [.ref (adK i)] u (pI post) 0 0 := by
  unfold P_JS_length at h
  refine xC.of (cc := b_JS_length) (nL := 1) (ret := (some .int)) (by decide) rfl (Nat.le_of_ble_eq_true rfl) ?_
  show RR l D clX (tysX cs) Ev "java/lang/String" b_JS_length 1 w_JS_length (rmD (d + 1)) (some .int) wd0 (pI post) 0 0 0 0 0 [(0, .ref (adK i))] [] u
  refine x_aload_n (x := (adK i)) d_JS_length_0 rfl ?_
  refine x_getO (v := .ref (adV i)) (fun A s h9 => ((X A s h9).2.1 i hi).2.2.2.1) (cG tw_1148) d_JS_length_1 ?_
  refine x_tlen (fun A s h9 => ((X A s h9).2.1 i hi).2.2.2.2) d_JS_length_4 ?_
  refine x_aload_n (x := (adK i)) d_JS_length_5 rfl ?_
  refine x_callVO (st := [.int (nI (lenS i))]) k_JS_335 (fun A s h9 => ((X A s h9).2.1 i hi).2.1) x_id (cf_JS_coder l D cs Ev hE adK adV fm X i hi (d + 0)) hE (rmD_ok (by omega) (by decide)) rfl (Nat.le_of_ble_eq_true rfl) rfl d_JS_length_6 (x_rI (fun x u1 h9 => ?_))
  obtain ⟨rfl, rfl⟩ := h9
  refine x_ishr d_JS_length_9 ?_
  refine x_iret d_JS_length_10 ⟨_, rfl, ?_⟩
  exact h
theorem cf_JS_length (l : Launch) (D : va_G) (cs : Nat → ClassId) (Ev : (Nat → Prop) → State → Prop) (hE : xEok Ev) (adK adV : Nat → Nat) (fm : Option Nat) (X : xEv adK adV fm Ev) (i : Nat) (hi : i < 56) (d : Nat) : xC l D clX (tysX cs) Ev y_JS_length w_JS_length (rmD (d + 1)) wd0 [.ref (adK i)] () (pI (fun r u1 => r = nI (lenS i) ∧ () = u1)) 0 0 := by
  refine c_JS_length l D cs Ev hE adK adV fm X i hi d _ () ?_
  exact ⟨sb_shr0 _, rfl⟩
def P_JL_canEncode (post : Int32 → Unit → Prop) (a0 : Int32) (u : Unit) : Prop := ((a0 < 0 → post 0 u) ∧ (¬ a0 < 0 → ((255 < a0 → post 0 u) ∧ (¬ 255 < a0 → post 1 u))))
set_option maxHeartbeats 600000 in
set_option maxRecDepth 100000 in
theorem c_JL_canEncode (l : Launch) (D : va_G) (cs : Nat → ClassId) (Ev : (Nat → Prop) → State → Prop) (hE : xEok Ev) (adK adV : Nat → Nat) (fm : Option Nat) (X : xEv adK adV fm Ev) (d : Nat) (post : Int32 → Unit → Prop) (a0 : Int32) (u : Unit) (h : P_JL_canEncode post a0 u) : xC l D clX (tysX cs) Ev y_JL_canEncode w_JL_canEncode (rmD (d + 0)) wd0 [.int a0] u (pI post) 0 0 := by
  unfold P_JL_canEncode at h
  refine xC.of (cc := b_JL_canEncode) (nL := 1) (ret := (some .boolean)) (by decide) rfl (Nat.le_of_ble_eq_true rfl) ?_
  show RR l D clX (tysX cs) Ev "java/lang/StringLatin1" b_JL_canEncode 1 w_JL_canEncode (rmD (d + 0)) (some .boolean) wd0 (pI post) 0 0 0 0 0 [(0, .int a0)] [] u
  refine x_iload_n (x := a0) d_JL_canEncode_0 rfl ?_
  refine x_if_lt (tgt := 15) d_JL_canEncode_1 rfl (fun hc => ?_) (fun hc => ?_)
  · have h := h.1 hc
    refine x_iconst (v := 0) d_JL_canEncode_15 (by decide) ?_
    refine x_zret rfl d_JL_canEncode_16 ⟨_, rfl, ?_⟩
    exact h
  · have h := h.2 hc
    refine x_iload_n (x := a0) d_JL_canEncode_4 rfl ?_
    refine x_sipush (v := 255) d_JL_canEncode_5 (by decide) ?_
    refine x_icmp_gt (tgt := 15) d_JL_canEncode_8 rfl (fun hc => ?_) (fun hc => ?_)
    · have h := h.1 hc
      refine x_iconst (v := 0) d_JL_canEncode_15 (by decide) ?_
      refine x_zret rfl d_JL_canEncode_16 ⟨_, rfl, ?_⟩
      exact h
    · have h := h.2 hc
      refine x_iconst (v := 1) d_JL_canEncode_11 (by decide) ?_
      refine x_goto (tgt := 16) d_JL_canEncode_12 rfl ?_
      refine x_zret rfl d_JL_canEncode_16 ⟨_, rfl, ?_⟩
      exact h
def canE (c : Int32) : Int32 := if c < 0 then 0 else if 255 < c then 0 else 1
theorem cf_JL_canEncode (l : Launch) (D : va_G) (cs : Nat → ClassId) (Ev : (Nat → Prop) → State → Prop) (hE : xEok Ev) (adK adV : Nat → Nat) (fm : Option Nat) (X : xEv adK adV fm Ev) (d : Nat) (c : Int32) : xC l D clX (tysX cs) Ev y_JL_canEncode w_JL_canEncode (rmD (d + 0)) wd0 [.int c] () (pI (fun r u1 => r = canE c ∧ () = u1)) 0 0 := by
  refine c_JL_canEncode l D cs Ev hE adK adV fm X d _ c () ?_
  unfold P_JL_canEncode canE
  exact ⟨fun h => ⟨by rw [if_pos h], rfl⟩, fun h => ⟨fun h2 => ⟨by rw [if_neg h, if_pos h2], rfl⟩, fun h2 => ⟨by rw [if_neg h, if_neg h2], rfl⟩⟩⟩
def P_JP_checkIndex_r_9 (post : Int32 → Unit → Prop) (x0 : Int32) (x1 : Int32) (u : Unit) : Prop := False
set_option maxHeartbeats 600000 in
set_option maxRecDepth 100000 in
theorem w_JP_checkIndex_r_9 (l : Launch) (D : va_G) (cs : Nat → ClassId) (Ev : (Nat → Prop) → State → Prop) (hE : xEok Ev) (adK adV : Nat → Nat) (t9 : Nat) (X : xEv adK adV (some t9) Ev) (d : Nat) (post : Int32 → Unit → Prop) (x0 : Int32) (x1 : Int32) (u : Unit) (h : P_JP_checkIndex_r_9 post  x0 x1 u) : RR l D clX (tysX cs) Ev "jdk/internal/util/Preconditions" b_JP_checkIndex 3 w_JP_checkIndex (rmD (d + 0)) (some .int) wd0 (pI post) 0 0 0 0 9 [(0, .int x0), (1, .int x1), (2, .ref t9)] [] u := by
  unfold P_JP_checkIndex_r_9 at h
  refine x_aload_n (x := t9) d_JP_checkIndex_9 rfl ?_
  refine x_iload_n (x := x0) d_JP_checkIndex_10 rfl ?_
  refine x_iload_n (x := x1) d_JP_checkIndex_11 rfl ?_
  exact h.elim
def P_JP_checkIndex_r (post : Int32 → Unit → Prop) (a0 : Int32) (a1 : Int32) (u : Unit) : Prop := ((a0 < 0 → P_JP_checkIndex_r_9 post a0 a1 u) ∧ (¬ a0 < 0 → ((a0 < a1 → post a0 u) ∧ (¬ a0 < a1 → P_JP_checkIndex_r_9 post a0 a1 u))))
set_option maxHeartbeats 600000 in
set_option maxRecDepth 100000 in
theorem c_JP_checkIndex_r (l : Launch) (D : va_G) (cs : Nat → ClassId) (Ev : (Nat → Prop) → State → Prop) (hE : xEok Ev) (adK adV : Nat → Nat) (t9 : Nat) (X : xEv adK adV (some t9) Ev) (d : Nat) (post : Int32 → Unit → Prop) (a0 : Int32) (a1 : Int32) (u : Unit) (h : P_JP_checkIndex_r post a0 a1 u) : xC l D clX (tysX cs) Ev y_JP_checkIndex w_JP_checkIndex (rmD (d + 0)) wd0 [.int a0, .int a1, .ref t9] u (pI post) 0 0 := by
  unfold P_JP_checkIndex_r at h
  refine xC.of (cc := b_JP_checkIndex) (nL := 3) (ret := (some .int)) (by decide) rfl (Nat.le_of_ble_eq_true rfl) ?_
  show RR l D clX (tysX cs) Ev "jdk/internal/util/Preconditions" b_JP_checkIndex 3 w_JP_checkIndex (rmD (d + 0)) (some .int) wd0 (pI post) 0 0 0 0 0 [(0, .int a0), (1, .int a1), (2, .ref t9)] [] u
  refine x_iload_n (x := a0) d_JP_checkIndex_0 rfl ?_
  refine x_if_lt (tgt := 9) d_JP_checkIndex_1 rfl (fun hc => ?_) (fun hc => ?_)
  · have h := h.1 hc
    exact w_JP_checkIndex_r_9 l D cs Ev hE adK adV t9 X d post  a0 a1 u h
  · have h := h.2 hc
    refine x_iload_n (x := a0) d_JP_checkIndex_4 rfl ?_
    refine x_iload_n (x := a1) d_JP_checkIndex_5 rfl ?_
    refine x_icmp_lt (tgt := 16) d_JP_checkIndex_6 rfl (fun hc => ?_) (fun hc => ?_)
    · have h := h.1 hc
      refine x_iload_n (x := a0) d_JP_checkIndex_16 rfl ?_
      refine x_iret d_JP_checkIndex_17 ⟨_, rfl, ?_⟩
      exact h
    · have h := h.2 hc
      exact w_JP_checkIndex_r_9 l D cs Ev hE adK adV t9 X d post  a0 a1 u h
theorem cf_JP_checkIndex_r (l : Launch) (D : va_G) (cs : Nat → ClassId) (Ev : (Nat → Prop) → State → Prop) (hE : xEok Ev) (adK adV : Nat → Nat) (t9 : Nat) (X : xEv adK adV (some t9) Ev) (d : Nat) (k n : Int32) (h : ¬ k < 0 ∧ k < n) : xC l D clX (tysX cs) Ev y_JP_checkIndex w_JP_checkIndex (rmD (d + 0)) wd0 [.int k, .int n, .ref t9] () (pI (fun r u1 => r = k ∧ () = u1)) 0 0 := by
  refine c_JP_checkIndex_r l D cs Ev hE adK adV t9 X d _ k n () ?_
  exact ⟨fun h1 => absurd h1 h.1, fun _ => ⟨fun _ => ⟨rfl, rfl⟩, fun h2 => absurd h.2 h2⟩⟩
def P_JS_checkIndex_r (post : Unit → Prop) (a0 : Int32) (a1 : Int32) (u : Unit) : Prop := ((¬ a0 < 0 ∧ a0 < a1) ∧ post u)
set_option maxHeartbeats 600000 in
set_option maxRecDepth 100000 in
theorem c_JS_checkIndex_r (l : Launch) (D : va_G) (cs : Nat → ClassId) (Ev : (Nat → Prop) → State → Prop) (hE : xEok Ev) (adK adV : Nat → Nat) (t9 : Nat) (X : xEv adK adV (some t9) Ev) (d : Nat) (post : Unit → Prop) (a0 : Int32) (a1 : Int32) (u : Unit) (h : P_JS_checkIndex_r post a0 a1 u) : xC l D clX (tysX cs) Ev y_JS_checkIndex w_JS_checkIndex (rmD (d + 1)) wd0 [.int a0, .int a1] u (pV post) 0 0 := by
  unfold P_JS_checkIndex_r at h
  refine xC.of (cc := b_JS_checkIndex) (nL := 2) (ret := none) (by decide) rfl (Nat.le_of_ble_eq_true rfl) ?_
  show RR l D clX (tysX cs) Ev "java/lang/String" b_JS_checkIndex 2 w_JS_checkIndex (rmD (d + 1)) none wd0 (pV post) 0 0 0 0 0 [(0, .int a0), (1, .int a1)] [] u
  refine x_iload_n (x := a0) d_JS_checkIndex_0 rfl ?_
  refine x_iload_n (x := a1) d_JS_checkIndex_1 rfl ?_
  refine x_gets (v := .ref t9) (fun A s h9 => (X A s h9).1.2) (cG tw_220) d_JS_checkIndex_2 ?_
  refine x_callS (st := []) k_JS_1059 x_id (cf_JP_checkIndex_r l D cs Ev hE adK adV t9 X (d + 0) a0 a1 h.1) hE (rmD_ok (by omega) (by decide)) rfl (Nat.le_of_ble_eq_true rfl) rfl d_JS_checkIndex_5 (x_rI (fun x u1 h9 => ?_))
  obtain ⟨rfl, rfl⟩ := h9
  have h := h.2
  refine x_pop d_JS_checkIndex_8 rfl ?_
  refine x_vret d_JS_checkIndex_9 ⟨rfl, ?_⟩
  exact h
def P_JP_checkIndex_n_9 (post : Int32 → Unit → Prop) (x0 : Int32) (x1 : Int32) (u : Unit) : Prop := False
set_option maxHeartbeats 600000 in
set_option maxRecDepth 100000 in
theorem w_JP_checkIndex_n_9 (l : Launch) (D : va_G) (cs : Nat → ClassId) (Ev : (Nat → Prop) → State → Prop) (hE : xEok Ev) (adK adV : Nat → Nat) (X : xEv adK adV none Ev) (d : Nat) (post : Int32 → Unit → Prop) (x0 : Int32) (x1 : Int32) (u : Unit) (h : P_JP_checkIndex_n_9 post  x0 x1 u) : RR l D clX (tysX cs) Ev "jdk/internal/util/Preconditions" b_JP_checkIndex 3 w_JP_checkIndex (rmD (d + 0)) (some .int) wd0 (pI post) 0 0 0 0 9 [(0, .int x0), (1, .int x1), (2, .null)] [] u := by
  unfold P_JP_checkIndex_n_9 at h
  refine x_aload_nN d_JP_checkIndex_9 rfl ?_
  refine x_iload_n (x := x0) d_JP_checkIndex_10 rfl ?_
  refine x_iload_n (x := x1) d_JP_checkIndex_11 rfl ?_
  exact h.elim
def P_JP_checkIndex_n (post : Int32 → Unit → Prop) (a0 : Int32) (a1 : Int32) (u : Unit) : Prop := ((a0 < 0 → P_JP_checkIndex_n_9 post a0 a1 u) ∧ (¬ a0 < 0 → ((a0 < a1 → post a0 u) ∧ (¬ a0 < a1 → P_JP_checkIndex_n_9 post a0 a1 u))))
set_option maxHeartbeats 600000 in
set_option maxRecDepth 100000 in
theorem c_JP_checkIndex_n (l : Launch) (D : va_G) (cs : Nat → ClassId) (Ev : (Nat → Prop) → State → Prop) (hE : xEok Ev) (adK adV : Nat → Nat) (X : xEv adK adV none Ev) (d : Nat) (post : Int32 → Unit → Prop) (a0 : Int32) (a1 : Int32) (u : Unit) (h : P_JP_checkIndex_n post a0 a1 u) : xC l D clX (tysX cs) Ev y_JP_checkIndex w_JP_checkIndex (rmD (d + 0)) wd0 [.int a0, .int a1, .null] u (pI post) 0 0 := by
  unfold P_JP_checkIndex_n at h
  refine xC.of (cc := b_JP_checkIndex) (nL := 3) (ret := (some .int)) (by decide) rfl (Nat.le_of_ble_eq_true rfl) ?_
  show RR l D clX (tysX cs) Ev "jdk/internal/util/Preconditions" b_JP_checkIndex 3 w_JP_checkIndex (rmD (d + 0)) (some .int) wd0 (pI post) 0 0 0 0 0 [(0, .int a0), (1, .int a1), (2, .null)] [] u
  refine x_iload_n (x := a0) d_JP_checkIndex_0 rfl ?_
  refine x_if_lt (tgt := 9) d_JP_checkIndex_1 rfl (fun hc => ?_) (fun hc => ?_)
  · have h := h.1 hc
    exact w_JP_checkIndex_n_9 l D cs Ev hE adK adV X d post  a0 a1 u h
  · have h := h.2 hc
    refine x_iload_n (x := a0) d_JP_checkIndex_4 rfl ?_
    refine x_iload_n (x := a1) d_JP_checkIndex_5 rfl ?_
    refine x_icmp_lt (tgt := 16) d_JP_checkIndex_6 rfl (fun hc => ?_) (fun hc => ?_)
    · have h := h.1 hc
      refine x_iload_n (x := a0) d_JP_checkIndex_16 rfl ?_
      refine x_iret d_JP_checkIndex_17 ⟨_, rfl, ?_⟩
      exact h
    · have h := h.2 hc
      exact w_JP_checkIndex_n_9 l D cs Ev hE adK adV X d post  a0 a1 u h
theorem cf_JP_checkIndex_n (l : Launch) (D : va_G) (cs : Nat → ClassId) (Ev : (Nat → Prop) → State → Prop) (hE : xEok Ev) (adK adV : Nat → Nat) (X : xEv adK adV none Ev) (d : Nat) (k n : Int32) (h : ¬ k < 0 ∧ k < n) : xC l D clX (tysX cs) Ev y_JP_checkIndex w_JP_checkIndex (rmD (d + 0)) wd0 [.int k, .int n, .null] () (pI (fun r u1 => r = k ∧ () = u1)) 0 0 := by
  refine c_JP_checkIndex_n l D cs Ev hE adK adV X d _ k n () ?_
  exact ⟨fun h1 => absurd h1 h.1, fun _ => ⟨fun _ => ⟨rfl, rfl⟩, fun h2 => absurd h.2 h2⟩⟩
def P_JS_checkIndex_n (post : Unit → Prop) (a0 : Int32) (a1 : Int32) (u : Unit) : Prop := ((¬ a0 < 0 ∧ a0 < a1) ∧ post u)
set_option maxHeartbeats 600000 in
set_option maxRecDepth 100000 in
theorem c_JS_checkIndex_n (l : Launch) (D : va_G) (cs : Nat → ClassId) (Ev : (Nat → Prop) → State → Prop) (hE : xEok Ev) (adK adV : Nat → Nat) (X : xEv adK adV none Ev) (d : Nat) (post : Unit → Prop) (a0 : Int32) (a1 : Int32) (u : Unit) (h : P_JS_checkIndex_n post a0 a1 u) : xC l D clX (tysX cs) Ev y_JS_checkIndex w_JS_checkIndex (rmD (d + 1)) wd0 [.int a0, .int a1] u (pV post) 0 0 := by
  unfold P_JS_checkIndex_n at h
  refine xC.of (cc := b_JS_checkIndex) (nL := 2) (ret := none) (by decide) rfl (Nat.le_of_ble_eq_true rfl) ?_
  show RR l D clX (tysX cs) Ev "java/lang/String" b_JS_checkIndex 2 w_JS_checkIndex (rmD (d + 1)) none wd0 (pV post) 0 0 0 0 0 [(0, .int a0), (1, .int a1)] [] u
  refine x_iload_n (x := a0) d_JS_checkIndex_0 rfl ?_
  refine x_iload_n (x := a1) d_JS_checkIndex_1 rfl ?_
  refine x_gets (v := .null) (fun A s h9 => (X A s h9).1.2) (cG tw_220) d_JS_checkIndex_2 ?_
  refine x_callS (st := []) k_JS_1059 x_id (cf_JP_checkIndex_n l D cs Ev hE adK adV X (d + 0) a0 a1 h.1) hE (rmD_ok (by omega) (by decide)) rfl (Nat.le_of_ble_eq_true rfl) rfl d_JS_checkIndex_5 (x_rI (fun x u1 h9 => ?_))
  obtain ⟨rfl, rfl⟩ := h9
  have h := h.2
  refine x_pop d_JS_checkIndex_8 rfl ?_
  refine x_vret d_JS_checkIndex_9 ⟨rfl, ?_⟩
  exact h
theorem cf_JS_checkIndex (l : Launch) (D : va_G) (cs : Nat → ClassId) (Ev : (Nat → Prop) → State → Prop) (hE : xEok Ev) (adK adV : Nat → Nat) (fm : Option Nat) (X : xEv adK adV fm Ev) (d : Nat) (k n : Int32) (h : ¬ k < 0 ∧ k < n) : xC l D clX (tysX cs) Ev y_JS_checkIndex w_JS_checkIndex (rmD (d + 1)) wd0 [.int k, .int n] () (pV (fun u1 => () = u1)) 0 0 := by
  cases fm with
  | none => exact c_JS_checkIndex_n l D cs Ev hE adK adV X d _ k n () ⟨h, rfl⟩
  | some t9 => exact c_JS_checkIndex_r l D cs Ev hE adK adV t9 X d _ k n () ⟨h, rfl⟩
def P_JL_charAt (post : Int32 → Unit → Prop) (i : Nat) (a1 : Int32) (u : Unit) : Prop := ((¬ a1 < 0 ∧ a1 < (nI (lenS i))) ∧ (vp_in a1 (lenS i) ∧ (narrow .char (.int ((((bytS i a1.toNatClampNeg) &&& (255 : Int32)).toUInt32 % 65536).toInt32)) = .int ((((bytS i a1.toNatClampNeg) &&& (255 : Int32)).toUInt32 % 65536).toInt32) ∧ post ((((bytS i a1.toNatClampNeg) &&& (255 : Int32)).toUInt32 % 65536).toInt32) u)))
set_option maxHeartbeats 600000 in
set_option maxRecDepth 100000 in
theorem c_JL_charAt (l : Launch) (D : va_G) (cs : Nat → ClassId) (Ev : (Nat → Prop) → State → Prop) (hE : xEok Ev) (adK adV : Nat → Nat) (fm : Option Nat) (X : xEv adK adV fm Ev) (i : Nat) (hi : i < 56) (d : Nat) (post : Int32 → Unit → Prop) (a1 : Int32) (u : Unit) (h : P_JL_charAt post i a1 u) : xC l D clX (tysX cs) Ev y_JL_charAt w_JL_charAt (rmD (d + 2)) wd0 [.ref (adV i), .int a1] u (pI post) 0 0 := by
  unfold P_JL_charAt at h
  refine xC.of (cc := b_JL_charAt) (nL := 2) (ret := (some .char)) (by decide) rfl (Nat.le_of_ble_eq_true rfl) ?_
  show RR l D clX (tysX cs) Ev "java/lang/StringLatin1" b_JL_charAt 2 w_JL_charAt (rmD (d + 2)) (some .char) wd0 (pI post) 0 0 0 0 0 [(0, .ref (adV i)), (1, .int a1)] [] u
  refine x_iload_n (x := a1) d_JL_charAt_0 rfl ?_
  refine x_aload_n (x := (adV i)) d_JL_charAt_1 rfl ?_
  refine x_tlen (fun A s h9 => ((X A s h9).2.1 i hi).2.2.2.2) d_JL_charAt_2 ?_
  refine x_callS (st := []) k_JL_9 x_id (cf_JS_checkIndex l D cs Ev hE adK adV fm X (d + 0) a1 (nI (lenS i)) h.1) hE (rmD_ok (by omega) (by decide)) rfl (Nat.le_of_ble_eq_true rfl) rfl d_JL_charAt_3 (x_rV (fun u1 h9 => ?_))
  subst h9
  have h := h.2
  refine x_aload_n (x := (adV i)) d_JL_charAt_6 rfl ?_
  refine x_iload_n (x := a1) d_JL_charAt_7 rfl ?_
  refine x_tb (f := bytS i) (fun A s h9 => ((X A s h9).2.1 i hi).2.2.2.2) h.1 d_JL_charAt_8 ?_
  have h := h.2
  refine x_sipush (v := 255) d_JL_charAt_9 (by decide) ?_
  refine x_iand d_JL_charAt_12 ?_
  refine x_i2c d_JL_charAt_13 ?_
  refine x_zret h.1 d_JL_charAt_14 ⟨_, rfl, ?_⟩
  exact h.2
def chS (i k : Nat) : Int32 := ((bytS i k &&& 255).toUInt32 % 65536).toInt32
theorem cf_JL_charAt (l : Launch) (D : va_G) (cs : Nat → ClassId) (Ev : (Nat → Prop) → State → Prop) (hE : xEok Ev) (adK adV : Nat → Nat) (fm : Option Nat) (X : xEv adK adV fm Ev) (i : Nat) (hi : i < 56) (d : Nat) (k : Int32) (h : vp_in k (lenS i)) : xC l D clX (tysX cs) Ev y_JL_charAt w_JL_charAt (rmD (d + 2)) wd0 [.ref (adV i), .int k] () (pI (fun r u1 => r = chS i k.toNatClampNeg ∧ () = u1)) 0 0 := by
  have hl : lenS i < 2 ^ 31 := by have := lenS_lt i; omega
  obtain ⟨j, hj, rfl⟩ := vp_in_of h hl
  refine c_JL_charAt l D cs Ev hE adK adV fm X i hi d _ (nI j) () ?_
  exact ⟨⟨nI_pos (by omega), nI_lt hj hl⟩, h, pk_nc _, rfl, rfl⟩
def P_JS_charAt (post : Int32 → Unit → Prop) (i : Nat) (a0 : Int32) (u : Unit) : Prop := (vp_in a0 (lenS i) ∧ (narrow .char (.int (chS i a0.toNatClampNeg)) = .int (chS i a0.toNatClampNeg) ∧ post (chS i a0.toNatClampNeg) u))
set_option maxHeartbeats 600000 in
set_option maxRecDepth 100000 in
theorem c_JS_charAt (l : Launch) (D : va_G) (cs : Nat → ClassId) (Ev : (Nat → Prop) → State → Prop) (hE : xEok Ev) (adK adV : Nat → Nat) (fm : Option Nat) (X : xEv adK adV fm Ev) (i : Nat) (hi : i < 56) (d : Nat) (post : Int32 → Unit → Prop) (a0 : Int32) (u : Unit) (h : P_JS_charAt post i a0 u) : xC l D clX (tysX cs) Ev y_JS_charAt w_JS_charAt (rmD (d + 3)) wd0 [.ref (adK i), .int a0] u (pI post) 0 0 := by
  unfold P_JS_charAt at h
  refine xC.of (cc := b_JS_charAt) (nL := 2) (ret := (some .char)) (by decide) rfl (Nat.le_of_ble_eq_true rfl) ?_
  show RR l D clX (tysX cs) Ev "java/lang/String" b_JS_charAt 2 w_JS_charAt (rmD (d + 3)) (some .char) wd0 (pI post) 0 0 0 0 0 [(0, .ref (adK i)), (1, .int a0)] [] u
  refine x_aload_n (x := (adK i)) d_JS_charAt_0 rfl ?_
  refine x_callVO (st := []) k_JS_492 (fun A s h9 => ((X A s h9).2.1 i hi).2.1) x_id (cf_JS_isLatin1 l D cs Ev hE adK adV fm X i hi (d + 2)) hE (rmD_ok (by omega) (by decide)) rfl (Nat.le_of_ble_eq_true rfl) rfl d_JS_charAt_1 (x_rI (fun x u1 h9 => ?_))
  obtain ⟨rfl, rfl⟩ := h9
  refine x_if_eq (tgt := 16) d_JS_charAt_4 rfl (fun hc => absurd hc (by decide)) (fun _ => ?_)
  refine x_aload_n (x := (adK i)) d_JS_charAt_7 rfl ?_
  refine x_getO (v := .ref (adV i)) (fun A s h9 => ((X A s h9).2.1 i hi).2.2.2.1) (cG tw_1148) d_JS_charAt_8 ?_
  refine x_iload_n (x := a0) d_JS_charAt_11 rfl ?_
  refine x_callS (st := []) k_JS_495 x_id (cf_JL_charAt l D cs Ev hE adK adV fm X i hi (d + 0) a0 h.1) hE (rmD_ok (by omega) (by decide)) rfl (Nat.le_of_ble_eq_true rfl) rfl d_JS_charAt_12 (x_rI (fun x u1 h9 => ?_))
  obtain ⟨rfl, rfl⟩ := h9
  have h := h.2
  refine x_zret h.1 d_JS_charAt_15 ⟨_, rfl, ?_⟩
  exact h.2
theorem cf_JS_charAt (l : Launch) (D : va_G) (cs : Nat → ClassId) (Ev : (Nat → Prop) → State → Prop) (hE : xEok Ev) (adK adV : Nat → Nat) (fm : Option Nat) (X : xEv adK adV fm Ev) (i : Nat) (hi : i < 56) (d : Nat) (k : Int32) (h : vp_in k (lenS i)) : xC l D clX (tysX cs) Ev y_JS_charAt w_JS_charAt (rmD (d + 3)) wd0 [.ref (adK i), .int k] () (pI (fun r u1 => r = chS i k.toNatClampNeg ∧ () = u1)) 0 0 := by
  refine c_JS_charAt l D cs Ev hE adK adV fm X i hi d _ k () ?_
  exact ⟨h, pk_nc _, rfl, rfl⟩
def P_JL_indexOfChar_7 (post : Int32 → Unit → Prop) (i : Nat) : Nat → Int32 → Int32 → Int32 → Unit → Prop
  | 0, _, _, _, _ => False
  | f + 1, x3, x4, x5, u => ((x3 ≤ x5 → post (-1) u) ∧ (¬ x3 ≤ x5 → (vp_in x5 (lenS i) ∧ ((¬ (bytS i x5.toNatClampNeg) = x4 → P_JL_indexOfChar_7 post i f x3 x4 (x5 + 1) u) ∧ ((bytS i x5.toNatClampNeg) = x4 → post x5 u)))))
set_option maxHeartbeats 600000 in
set_option maxRecDepth 100000 in
theorem w_JL_indexOfChar_7 (l : Launch) (D : va_G) (cs : Nat → ClassId) (Ev : (Nat → Prop) → State → Prop) (hE : xEok Ev) (adK adV : Nat → Nat) (fm : Option Nat) (X : xEv adK adV fm Ev) (i : Nat) (hi : i < 56) (d : Nat) (post : Int32 → Unit → Prop) : ∀ (f : Nat) (x3 : Int32) (x4 : Int32) (x5 : Int32) (u : Unit), P_JL_indexOfChar_7 post i  f x3 x4 x5 u → RR l D clX (tysX cs) Ev "java/lang/StringLatin1" b_JL_indexOfChar 6 w_JL_indexOfChar (rmD (d + 0)) (some .int) wd0 (pI post) 0 0 0 0 7 [(0, .ref (adV i)), (3, .int x3), (4, .int x4), (5, .int x5)] [] u := by
  intro f
  induction f with
  | zero => intro x3 x4 x5 u h; exact h.elim
  | succ f ih =>
    intro x3 x4 x5 u h
    unfold P_JL_indexOfChar_7 at h
    refine x_iload (x := x5) d_JL_indexOfChar_7 rfl ?_
    refine x_iload_n (x := x3) d_JL_indexOfChar_9 rfl ?_
    refine x_icmp_ge (tgt := 31) d_JL_indexOfChar_10 rfl (fun hc => ?_) (fun hc => ?_)
    · have h := h.1 hc
      refine x_iconst (v := (-1)) d_JL_indexOfChar_31 (by decide) ?_
      refine x_iret d_JL_indexOfChar_32 ⟨_, rfl, ?_⟩
      exact h
    · have h := h.2 hc
      refine x_aload_n (x := (adV i)) d_JL_indexOfChar_13 rfl ?_
      refine x_iload (x := x5) d_JL_indexOfChar_14 rfl ?_
      refine x_tb (f := bytS i) (fun A s h9 => ((X A s h9).2.1 i hi).2.2.2.2) h.1 d_JL_indexOfChar_16 ?_
      have h := h.2
      refine x_iload (x := x4) d_JL_indexOfChar_17 rfl ?_
      refine x_icmp_ne (tgt := 25) d_JL_indexOfChar_19 rfl (fun hc => ?_) (fun hc => ?_)
      · have h := h.1 hc
        refine x_iinc (v := x5 + 1) (lv' := [(5, .int (x5 + 1)), (0, .ref (adV i)), (3, .int x3), (4, .int x4)]) d_JL_indexOfChar_25 rfl rfl (by decide) rfl ?_
        refine x_goto (tgt := 7) d_JL_indexOfChar_28 rfl ?_
        refine x_sub [1, 2, 3, 0] rfl ?_
        exact ih x3 x4 (x5 + 1) u h
      · have h := h.2 hc
        refine x_iload (x := x5) d_JL_indexOfChar_22 rfl ?_
        refine x_iret d_JL_indexOfChar_24 ⟨_, rfl, ?_⟩
        exact h
def P_JL_indexOfChar (post : Int32 → Unit → Prop) (i : Nat) (a1 : Int32) (a2 : Int32) (a3 : Int32) (u : Unit) : Prop := (∀ v1, v1 = a1.toInt8.toInt32 → (∃ g, P_JL_indexOfChar_7 post i g a3 v1 a2 u))
set_option maxHeartbeats 600000 in
set_option maxRecDepth 100000 in
theorem c_JL_indexOfChar (l : Launch) (D : va_G) (cs : Nat → ClassId) (Ev : (Nat → Prop) → State → Prop) (hE : xEok Ev) (adK adV : Nat → Nat) (fm : Option Nat) (X : xEv adK adV fm Ev) (i : Nat) (hi : i < 56) (d : Nat) (post : Int32 → Unit → Prop) (a1 : Int32) (a2 : Int32) (a3 : Int32) (u : Unit) (h : P_JL_indexOfChar post i a1 a2 a3 u) : xC l D clX (tysX cs) Ev y_JL_indexOfChar w_JL_indexOfChar (rmD (d + 0)) wd0 [.ref (adV i), .int a1, .int a2, .int a3] u (pI post) 0 0 := by
  unfold P_JL_indexOfChar at h
  refine xC.of (cc := b_JL_indexOfChar) (nL := 6) (ret := (some .int)) (by decide) rfl (Nat.le_of_ble_eq_true rfl) ?_
  show RR l D clX (tysX cs) Ev "java/lang/StringLatin1" b_JL_indexOfChar 6 w_JL_indexOfChar (rmD (d + 0)) (some .int) wd0 (pI post) 0 0 0 0 0 [(0, .ref (adV i)), (1, .int a1), (2, .int a2), (3, .int a3)] [] u
  refine x_iload_n (x := a1) d_JL_indexOfChar_0 rfl ?_
  refine x_i2b d_JL_indexOfChar_1 ?_
  refine x_topI (fun v1 ev1 => ?_)
  have h := h v1 ev1
  refine x_istore (lv' := [(4, .int v1), (0, .ref (adV i)), (1, .int a1), (2, .int a2), (3, .int a3)]) d_JL_indexOfChar_2 (by decide) rfl ?_
  refine x_iload_n (x := a2) d_JL_indexOfChar_4 rfl ?_
  refine x_istore (lv' := [(5, .int a2), (4, .int v1), (0, .ref (adV i)), (1, .int a1), (2, .int a2), (3, .int a3)]) d_JL_indexOfChar_5 (by decide) rfl ?_
  refine x_sub [2, 5, 1, 0] rfl ?_
  obtain ⟨f9, h⟩ := h
  exact w_JL_indexOfChar_7 l D cs Ev hE adK adV fm X i hi d post  f9 a3 v1 a2 u h
def P_JL_indexOf (post : Int32 → Unit → Prop) (i : Nat) (a1 : Int32) (a2 : Int32) (a3 : Int32) (u : Unit) : Prop := ((¬ (canE a1) = 0 → (∀ v1, v1 = (if a2 < (0 : Int32) then (0 : Int32) else a2) → (∀ v2, v2 = (if (nI (lenS i)) < a3 then (nI (lenS i)) else a3) → ((v1 < v2 → P_JL_indexOfChar (fun r4 u3 => post r4 u3) i a1 v1 v2 ()) ∧ (¬ v1 < v2 → post (-1) u))))) ∧ ((canE a1) = 0 → post (-1) u))
set_option maxHeartbeats 600000 in
set_option maxRecDepth 100000 in
theorem c_JL_indexOf (l : Launch) (D : va_G) (cs : Nat → ClassId) (Ev : (Nat → Prop) → State → Prop) (hE : xEok Ev) (adK adV : Nat → Nat) (fm : Option Nat) (X : xEv adK adV fm Ev) (i : Nat) (hi : i < 56) (d : Nat) (post : Int32 → Unit → Prop) (a1 : Int32) (a2 : Int32) (a3 : Int32) (u : Unit) (h : P_JL_indexOf post i a1 a2 a3 u) : xC l D clX (tysX cs) Ev y_JL_indexOf w_JL_indexOf (rmD (d + 1)) wd0 [.ref (adV i), .int a1, .int a2, .int a3] u (pI post) 0 0 := by
  unfold P_JL_indexOf at h
  refine xC.of (cc := b_JL_indexOf) (nL := 4) (ret := (some .int)) (by decide) rfl (Nat.le_of_ble_eq_true rfl) ?_
  show RR l D clX (tysX cs) Ev "java/lang/StringLatin1" b_JL_indexOf 4 w_JL_indexOf (rmD (d + 1)) (some .int) wd0 (pI post) 0 0 0 0 0 [(0, .ref (adV i)), (1, .int a1), (2, .int a2), (3, .int a3)] [] u
  refine x_iload_n (x := a1) d_JL_indexOf_0 rfl ?_
  refine x_callS (st := []) k_JL_88 x_id (cf_JL_canEncode l D cs Ev hE adK adV fm X (d + 0) a1) hE (rmD_ok (by omega) (by decide)) rfl (Nat.le_of_ble_eq_true rfl) rfl d_JL_indexOf_1 (x_rI (fun x u1 h9 => ?_))
  obtain ⟨rfl, rfl⟩ := h9
  refine x_if_ne (tgt := 9) d_JL_indexOf_4 rfl (fun hc => ?_) (fun hc => ?_)
  · have h := h.1 hc
    refine x_iload_n (x := a2) d_JL_indexOf_9 rfl ?_
    refine x_iconst (v := 0) d_JL_indexOf_10 (by decide) ?_
    refine x_mmax (cG tw_193) (cG tw_194) (cG tw_10) (cG tw_195) (by show 1 ≤ d + 1; omega) (by show _ ≤ 64 * (d + 1); refine Nat.le_trans (m := 64) (Nat.le_of_ble_eq_true rfl) (by omega)) (Nat.le_refl _) (Nat.le_refl _) d_JL_indexOf_11 ?_
    refine x_topI (fun v1 ev1 => ?_)
    have h := h v1 ev1
    refine x_istore_n (lv' := [(2, .int v1), (0, .ref (adV i)), (1, .int a1), (3, .int a3)]) d_JL_indexOf_14 (by decide) rfl ?_
    refine x_iload_n (x := a3) d_JL_indexOf_15 rfl ?_
    refine x_aload_n (x := (adV i)) d_JL_indexOf_16 rfl ?_
    refine x_tlen (fun A s h9 => ((X A s h9).2.1 i hi).2.2.2.2) d_JL_indexOf_17 ?_
    refine x_mmin (cG tw_196) (cG tw_197) (cG tw_10) (cG tw_198) (by show 1 ≤ d + 1; omega) (by show _ ≤ 64 * (d + 1); refine Nat.le_trans (m := 64) (Nat.le_of_ble_eq_true rfl) (by omega)) (Nat.le_refl _) (Nat.le_refl _) d_JL_indexOf_18 ?_
    refine x_topI (fun v2 ev2 => ?_)
    have h := h v2 ev2
    refine x_istore_n (lv' := [(3, .int v2), (2, .int v1), (0, .ref (adV i)), (1, .int a1)]) d_JL_indexOf_21 (by decide) rfl ?_
    refine x_iload_n (x := v1) d_JL_indexOf_22 rfl ?_
    refine x_iload_n (x := v2) d_JL_indexOf_23 rfl ?_
    refine x_icmp_lt (tgt := 29) d_JL_indexOf_24 rfl (fun hc => ?_) (fun hc => ?_)
    · have h := h.1 hc
      refine x_aload_n (x := (adV i)) d_JL_indexOf_29 rfl ?_
      refine x_iload_n (x := a1) d_JL_indexOf_30 rfl ?_
      refine x_iload_n (x := v1) d_JL_indexOf_31 rfl ?_
      refine x_iload_n (x := v2) d_JL_indexOf_32 rfl ?_
      refine x_callS (st := []) k_JL_95 x_id (c_JL_indexOfChar l D cs Ev hE adK adV fm X i hi (d + 0) _ a1 v1 v2 () h) hE (rmD_ok (by omega) (by decide)) rfl (Nat.le_of_ble_eq_true rfl) rfl d_JL_indexOf_33 (x_rI (fun r4 u3 h => ?_))
      refine x_iret d_JL_indexOf_36 ⟨_, rfl, ?_⟩
      exact h
    · have h := h.2 hc
      refine x_iconst (v := (-1)) d_JL_indexOf_27 (by decide) ?_
      refine x_iret d_JL_indexOf_28 ⟨_, rfl, ?_⟩
      exact h
  · have h := h.2 hc
    refine x_iconst (v := (-1)) d_JL_indexOf_7 (by decide) ?_
    refine x_iret d_JL_indexOf_8 ⟨_, rfl, ?_⟩
    exact h
def P_JS_indexOf1 (post : Int32 → Unit → Prop) (i : Nat) (a0 : Int32) (a1 : Int32) (u : Unit) : Prop := P_JL_indexOf (fun r2 u1 => post r2 u1) i a0 a1 (nI (lenS i)) ()
set_option maxHeartbeats 600000 in
set_option maxRecDepth 100000 in
theorem c_JS_indexOf1 (l : Launch) (D : va_G) (cs : Nat → ClassId) (Ev : (Nat → Prop) → State → Prop) (hE : xEok Ev) (adK adV : Nat → Nat) (fm : Option Nat) (X : xEv adK adV fm Ev) (i : Nat) (hi : i < 56) (d : Nat) (post : Int32 → Unit → Prop) (a0 : Int32) (a1 : Int32) (u : Unit) (h : P_JS_indexOf1 post i a0 a1 u) : xC l D clX (tysX cs) Ev y_JS_indexOf1 w_JS_indexOf1 (rmD (d + 2)) wd0 [.ref (adK i), .int a0, .int a1] u (pI post) 0 0 := by
  unfold P_JS_indexOf1 at h
  refine xC.of (cc := b_JS_indexOf1) (nL := 3) (ret := (some .int)) (by decide) rfl (Nat.le_of_ble_eq_true rfl) ?_
  show RR l D clX (tysX cs) Ev "java/lang/String" b_JS_indexOf1 3 w_JS_indexOf1 (rmD (d + 2)) (some .int) wd0 (pI post) 0 0 0 0 0 [(0, .ref (adK i)), (1, .int a0), (2, .int a1)] [] u
  refine x_aload_n (x := (adK i)) d_JS_indexOf1_0 rfl ?_
  refine x_callVO (st := []) k_JS_492 (fun A s h9 => ((X A s h9).2.1 i hi).2.1) x_id (cf_JS_isLatin1 l D cs Ev hE adK adV fm X i hi (d + 1)) hE (rmD_ok (by omega) (by decide)) rfl (Nat.le_of_ble_eq_true rfl) rfl d_JS_indexOf1_1 (x_rI (fun x u1 h9 => ?_))
  obtain ⟨rfl, rfl⟩ := h9
  refine x_if_eq (tgt := 23) d_JS_indexOf1_4 rfl (fun hc => absurd hc (by decide)) (fun _ => ?_)
  refine x_aload_n (x := (adK i)) d_JS_indexOf1_7 rfl ?_
  refine x_getO (v := .ref (adV i)) (fun A s h9 => ((X A s h9).2.1 i hi).2.2.2.1) (cG tw_1148) d_JS_indexOf1_8 ?_
  refine x_iload_n (x := a0) d_JS_indexOf1_11 rfl ?_
  refine x_iload_n (x := a1) d_JS_indexOf1_12 rfl ?_
  refine x_aload_n (x := (adK i)) d_JS_indexOf1_13 rfl ?_
  refine x_callVO (st := [.int a1, .int a0, .ref (adV i)]) k_JS_505 (fun A s h9 => ((X A s h9).2.1 i hi).2.1) x_id (cf_JS_length l D cs Ev hE adK adV fm X i hi (d + 0)) hE (rmD_ok (by omega) (by decide)) rfl (Nat.le_of_ble_eq_true rfl) rfl d_JS_indexOf1_14 (x_rI (fun x u1 h9 => ?_))
  obtain ⟨rfl, rfl⟩ := h9
  refine x_callS (st := []) k_JS_637 x_id (c_JL_indexOf l D cs Ev hE adK adV fm X i hi (d + 0) _ a0 a1 (nI (lenS i)) () h) hE (rmD_ok (by omega) (by decide)) rfl (Nat.le_of_ble_eq_true rfl) rfl d_JS_indexOf1_17 (x_rI (fun r2 u1 h => ?_))
  refine x_goto (tgt := 36) d_JS_indexOf1_20 rfl ?_
  refine x_iret d_JS_indexOf1_36 ⟨_, rfl, ?_⟩
  exact h
def P_JS_indexOf0 (post : Int32 → Unit → Prop) (i : Nat) (a0 : Int32) (u : Unit) : Prop := P_JS_indexOf1 (fun r2 u1 => post r2 u1) i a0 (0 : Int32) ()
set_option maxHeartbeats 600000 in
set_option maxRecDepth 100000 in
theorem c_JS_indexOf0 (l : Launch) (D : va_G) (cs : Nat → ClassId) (Ev : (Nat → Prop) → State → Prop) (hE : xEok Ev) (adK adV : Nat → Nat) (fm : Option Nat) (X : xEv adK adV fm Ev) (i : Nat) (hi : i < 56) (d : Nat) (post : Int32 → Unit → Prop) (a0 : Int32) (u : Unit) (h : P_JS_indexOf0 post i a0 u) : xC l D clX (tysX cs) Ev y_JS_indexOf0 w_JS_indexOf0 (rmD (d + 3)) wd0 [.ref (adK i), .int a0] u (pI post) 0 0 := by
  unfold P_JS_indexOf0 at h
  refine xC.of (cc := b_JS_indexOf0) (nL := 2) (ret := (some .int)) (by decide) rfl (Nat.le_of_ble_eq_true rfl) ?_
  show RR l D clX (tysX cs) Ev "java/lang/String" b_JS_indexOf0 2 w_JS_indexOf0 (rmD (d + 3)) (some .int) wd0 (pI post) 0 0 0 0 0 [(0, .ref (adK i)), (1, .int a0)] [] u
  refine x_aload_n (x := (adK i)) d_JS_indexOf0_0 rfl ?_
  refine x_iload_n (x := a0) d_JS_indexOf0_1 rfl ?_
  refine x_iconst (v := 0) d_JS_indexOf0_2 (by decide) ?_
  refine x_callVO (st := []) k_JS_633 (fun A s h9 => ((X A s h9).2.1 i hi).2.1) x_id (c_JS_indexOf1 l D cs Ev hE adK adV fm X i hi (d + 0) _ a0 (0 : Int32) () h) hE (rmD_ok (by omega) (by decide)) rfl (Nat.le_of_ble_eq_true rfl) rfl d_JS_indexOf0_3 (x_rI (fun r2 u1 h => ?_))
  refine x_iret d_JS_indexOf0_6 ⟨_, rfl, ?_⟩
  exact h

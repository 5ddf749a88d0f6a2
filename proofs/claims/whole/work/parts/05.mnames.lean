abbrev y_M_isLetter : MethodName := ⟨"DeckFrontModel", "isLetter", "(I)Z"⟩
abbrev b_M_isLetter : ByteArray := prog_8_method_3_code
abbrev w_M_isLetter : List Cond := (Jvm.Cond.code ({ cls := "DeckFrontModel", name := "isLetter", desc := "(I)Z" } : Jvm.MethodName) prog_8_method_3_code (1 : Nat) (Option.some Jvm.ClassFile.FieldType.boolean)) :: wG
theorem d_M_isLetter_0 : decode b_M_isLetter 0 = .ok (.iload_n 0, 1) := by decide +kernel
theorem d_M_isLetter_1 : decode b_M_isLetter 1 = .ok (.bipush 65, 2) := by decide +kernel
theorem d_M_isLetter_3 : decode b_M_isLetter 3 = .ok (.if_icmp .lt 13, 3) := by decide +kernel
theorem d_M_isLetter_6 : decode b_M_isLetter 6 = .ok (.iload_n 0, 1) := by decide +kernel
theorem d_M_isLetter_7 : decode b_M_isLetter 7 = .ok (.bipush 90, 2) := by decide +kernel
theorem d_M_isLetter_9 : decode b_M_isLetter 9 = .ok (.if_icmp .gt 7, 3) := by decide +kernel
theorem d_M_isLetter_12 : decode b_M_isLetter 12 = .ok (.iconst 1, 1) := by decide +kernel
theorem d_M_isLetter_13 : decode b_M_isLetter 13 = .ok (.goto 4, 3) := by decide +kernel
theorem d_M_isLetter_16 : decode b_M_isLetter 16 = .ok (.iconst 0, 1) := by decide +kernel
theorem d_M_isLetter_17 : decode b_M_isLetter 17 = .ok (.ireturn, 1) := by decide +kernel
abbrev y_M_isDigit : MethodName := ⟨"DeckFrontModel", "isDigit", "(I)Z"⟩
abbrev b_M_isDigit : ByteArray := prog_8_method_4_code
abbrev w_M_isDigit : List Cond := (Jvm.Cond.code ({ cls := "DeckFrontModel", name := "isDigit", desc := "(I)Z" } : Jvm.MethodName) prog_8_method_4_code (1 : Nat) (Option.some Jvm.ClassFile.FieldType.boolean)) :: wG
theorem d_M_isDigit_0 : decode b_M_isDigit 0 = .ok (.iload_n 0, 1) := by decide +kernel
theorem d_M_isDigit_1 : decode b_M_isDigit 1 = .ok (.bipush 48, 2) := by decide +kernel
theorem d_M_isDigit_3 : decode b_M_isDigit 3 = .ok (.if_icmp .lt 13, 3) := by decide +kernel
theorem d_M_isDigit_6 : decode b_M_isDigit 6 = .ok (.iload_n 0, 1) := by decide +kernel
theorem d_M_isDigit_7 : decode b_M_isDigit 7 = .ok (.bipush 57, 2) := by decide +kernel
theorem d_M_isDigit_9 : decode b_M_isDigit 9 = .ok (.if_icmp .gt 7, 3) := by decide +kernel
theorem d_M_isDigit_12 : decode b_M_isDigit 12 = .ok (.iconst 1, 1) := by decide +kernel
theorem d_M_isDigit_13 : decode b_M_isDigit 13 = .ok (.goto 4, 3) := by decide +kernel
theorem d_M_isDigit_16 : decode b_M_isDigit 16 = .ok (.iconst 0, 1) := by decide +kernel
theorem d_M_isDigit_17 : decode b_M_isDigit 17 = .ok (.ireturn, 1) := by decide +kernel
abbrev y_M_at : MethodName := ⟨"DeckFrontModel", "at", "(I)I"⟩
abbrev b_M_at : ByteArray := prog_8_method_15_code
abbrev w_M_at : List Cond := (Jvm.Cond.code ({ cls := "DeckFrontModel", name := "at", desc := "(I)I" } : Jvm.MethodName) prog_8_method_15_code (2 : Nat) (Option.some Jvm.ClassFile.FieldType.int)) :: wG
theorem d_M_at_0 : decode b_M_at 0 = .ok (.iload_n 1, 1) := by decide +kernel
theorem d_M_at_1 : decode b_M_at 1 = .ok (.aload_n 0, 1) := by decide +kernel
theorem d_M_at_2 : decode b_M_at 2 = .ok (.getfield 116, 3) := by decide +kernel
theorem d_M_at_5 : decode b_M_at 5 = .ok (.if_icmp .ge 12, 3) := by decide +kernel
theorem d_M_at_8 : decode b_M_at 8 = .ok (.aload_n 0, 1) := by decide +kernel
theorem d_M_at_9 : decode b_M_at 9 = .ok (.getfield 20, 3) := by decide +kernel
theorem d_M_at_12 : decode b_M_at 12 = .ok (.iload_n 1, 1) := by decide +kernel
theorem d_M_at_13 : decode b_M_at 13 = .ok (.caload, 1) := by decide +kernel
theorem d_M_at_14 : decode b_M_at 14 = .ok (.goto 4, 3) := by decide +kernel
theorem d_M_at_17 : decode b_M_at 17 = .ok (.iconst 0, 1) := by decide +kernel
theorem d_M_at_18 : decode b_M_at 18 = .ok (.ireturn, 1) := by decide +kernel
abbrev y_M_put : MethodName := ⟨"DeckFrontModel", "put", "(I)V"⟩
abbrev b_M_put : ByteArray := prog_8_method_16_code
abbrev w_M_put : List Cond := (Jvm.Cond.code ({ cls := "DeckFrontModel", name := "put", desc := "(I)V" } : Jvm.MethodName) prog_8_method_16_code (2 : Nat) (Option.none : Option Jvm.ClassFile.FieldType)) :: wG
theorem d_M_put_0 : decode b_M_put 0 = .ok (.aload_n 0, 1) := by decide +kernel
theorem d_M_put_1 : decode b_M_put 1 = .ok (.getfield 23, 3) := by decide +kernel
theorem d_M_put_4 : decode b_M_put 4 = .ok (.aload_n 0, 1) := by decide +kernel
theorem d_M_put_5 : decode b_M_put 5 = .ok (.getfield 119, 3) := by decide +kernel
theorem d_M_put_8 : decode b_M_put 8 = .ok (.iload_n 1, 1) := by decide +kernel
theorem d_M_put_9 : decode b_M_put 9 = .ok (.i2c, 1) := by decide +kernel
theorem d_M_put_10 : decode b_M_put 10 = .ok (.castore, 1) := by decide +kernel
theorem d_M_put_11 : decode b_M_put 11 = .ok (.aload_n 0, 1) := by decide +kernel
theorem d_M_put_12 : decode b_M_put 12 = .ok (.dup, 1) := by decide +kernel
theorem d_M_put_13 : decode b_M_put 13 = .ok (.getfield 119, 3) := by decide +kernel
theorem d_M_put_16 : decode b_M_put 16 = .ok (.iconst 1, 1) := by decide +kernel
theorem d_M_put_17 : decode b_M_put 17 = .ok (.iadd, 1) := by decide +kernel
theorem d_M_put_18 : decode b_M_put 18 = .ok (.putfield 119, 3) := by decide +kernel
theorem d_M_put_21 : decode b_M_put 21 = .ok (.return_, 1) := by decide +kernel
abbrev y_M_putPart : MethodName := ⟨"DeckFrontModel", "putPart", "(II)V"⟩
abbrev b_M_putPart : ByteArray := prog_8_method_17_code
abbrev w_M_putPart : List Cond := (Jvm.Cond.code ({ cls := "DeckFrontModel", name := "putPart", desc := "(II)V" } : Jvm.MethodName) prog_8_method_17_code (4 : Nat) (Option.none : Option Jvm.ClassFile.FieldType)) :: wG
theorem d_M_putPart_0 : decode b_M_putPart 0 = .ok (.iload_n 1, 1) := by decide +kernel
theorem d_M_putPart_1 : decode b_M_putPart 1 = .ok (.istore_n 3, 1) := by decide +kernel
theorem d_M_putPart_2 : decode b_M_putPart 2 = .ok (.iload_n 3, 1) := by decide +kernel
theorem d_M_putPart_3 : decode b_M_putPart 3 = .ok (.iload_n 2, 1) := by decide +kernel
theorem d_M_putPart_4 : decode b_M_putPart 4 = .ok (.if_icmp .ge 19, 3) := by decide +kernel
theorem d_M_putPart_7 : decode b_M_putPart 7 = .ok (.aload_n 0, 1) := by decide +kernel
theorem d_M_putPart_8 : decode b_M_putPart 8 = .ok (.aload_n 0, 1) := by decide +kernel
theorem d_M_putPart_9 : decode b_M_putPart 9 = .ok (.getfield 20, 3) := by decide +kernel
theorem d_M_putPart_12 : decode b_M_putPart 12 = .ok (.iload_n 3, 1) := by decide +kernel
theorem d_M_putPart_13 : decode b_M_putPart 13 = .ok (.caload, 1) := by decide +kernel
theorem d_M_putPart_14 : decode b_M_putPart 14 = .ok (.invokevirtual 122, 3) := by decide +kernel
theorem d_M_putPart_17 : decode b_M_putPart 17 = .ok (.iinc 3 1, 3) := by decide +kernel
theorem d_M_putPart_20 : decode b_M_putPart 20 = .ok (.goto (-18), 3) := by decide +kernel
theorem d_M_putPart_23 : decode b_M_putPart 23 = .ok (.return_, 1) := by decide +kernel
abbrev y_M_thrown : MethodName := ⟨"DeckFrontModel", "thrown", "()I"⟩
abbrev b_M_thrown : ByteArray := prog_8_method_2_code
abbrev w_M_thrown : List Cond := (Jvm.Cond.code ({ cls := "DeckFrontModel", name := "thrown", desc := "()I" } : Jvm.MethodName) prog_8_method_2_code (1 : Nat) (Option.some Jvm.ClassFile.FieldType.int)) :: wG
theorem d_M_thrown_0 : decode b_M_thrown 0 = .ok (.aload_n 0, 1) := by decide +kernel
theorem d_M_thrown_1 : decode b_M_thrown 1 = .ok (.getfield 82, 3) := by decide +kernel
theorem d_M_thrown_4 : decode b_M_thrown 4 = .ok (.ireturn, 1) := by decide +kernel
abbrev y_M_there : MethodName := ⟨"DeckFrontModel", "there", "(I)Z"⟩
abbrev b_M_there : ByteArray := prog_8_method_13_code
abbrev w_M_there : List Cond := (Jvm.Cond.code ({ cls := "DeckFrontModel", name := "there", desc := "(I)Z" } : Jvm.MethodName) prog_8_method_13_code (2 : Nat) (Option.some Jvm.ClassFile.FieldType.boolean)) :: wG
theorem d_M_there_0 : decode b_M_there 0 = .ok (.iload_n 1, 1) := by decide +kernel
theorem d_M_there_1 : decode b_M_there 1 = .ok (.ifCond .lt 15, 3) := by decide +kernel
theorem d_M_there_4 : decode b_M_there 4 = .ok (.iload_n 1, 1) := by decide +kernel
theorem d_M_there_5 : decode b_M_there 5 = .ok (.aload_n 0, 1) := by decide +kernel
theorem d_M_there_6 : decode b_M_there 6 = .ok (.getfield 99, 3) := by decide +kernel
theorem d_M_there_9 : decode b_M_there 9 = .ok (.if_icmp .ge 7, 3) := by decide +kernel
theorem d_M_there_12 : decode b_M_there 12 = .ok (.iconst 1, 1) := by decide +kernel
theorem d_M_there_13 : decode b_M_there 13 = .ok (.goto 4, 3) := by decide +kernel
theorem d_M_there_16 : decode b_M_there 16 = .ok (.iconst 0, 1) := by decide +kernel
theorem d_M_there_17 : decode b_M_there 17 = .ok (.ireturn, 1) := by decide +kernel
abbrev y_M_label : MethodName := ⟨"DeckFrontModel", "label", "(I)I"⟩
abbrev b_M_label : ByteArray := prog_8_method_14_code
abbrev w_M_label : List Cond := (Jvm.Cond.code ({ cls := "DeckFrontModel", name := "label", desc := "(I)I" } : Jvm.MethodName) prog_8_method_14_code (2 : Nat) (Option.some Jvm.ClassFile.FieldType.int)) :: wG
theorem d_M_label_0 : decode b_M_label 0 = .ok (.aload_n 0, 1) := by decide +kernel
theorem d_M_label_1 : decode b_M_label 1 = .ok (.iconst 0, 1) := by decide +kernel
theorem d_M_label_2 : decode b_M_label 2 = .ok (.putfield 82, 3) := by decide +kernel
theorem d_M_label_5 : decode b_M_label 5 = .ok (.aload_n 0, 1) := by decide +kernel
theorem d_M_label_6 : decode b_M_label 6 = .ok (.iload_n 1, 1) := by decide +kernel
theorem d_M_label_7 : decode b_M_label 7 = .ok (.invokevirtual 113, 3) := by decide +kernel
theorem d_M_label_10 : decode b_M_label 10 = .ok (.ifCond .eq 12, 3) := by decide +kernel
theorem d_M_label_13 : decode b_M_label 13 = .ok (.aload_n 0, 1) := by decide +kernel
theorem d_M_label_14 : decode b_M_label 14 = .ok (.getfield 13, 3) := by decide +kernel
theorem d_M_label_17 : decode b_M_label 17 = .ok (.iload_n 1, 1) := by decide +kernel
theorem d_M_label_18 : decode b_M_label 18 = .ok (.iaload, 1) := by decide +kernel
theorem d_M_label_19 : decode b_M_label 19 = .ok (.goto 4, 3) := by decide +kernel
theorem d_M_label_22 : decode b_M_label 22 = .ok (.iconst (-1), 1) := by decide +kernel
theorem d_M_label_23 : decode b_M_label 23 = .ok (.ireturn, 1) := by decide +kernel
theorem k_M_122 {a : Cond} : xkV (a :: wG) "DeckFrontModel" 122 y_M_put b_M_put 2 (Option.none : Option Jvm.ClassFile.FieldType) w_M_put 1 := ⟨⟨gG tw_938, ⟨_, rfl⟩, cG tw_7, by decide, by decide, by decide +kernel⟩, cG tw_935, cG tw_937, cG tp_3_0⟩
theorem k_M_113 {a : Cond} : xkV (a :: wG) "DeckFrontModel" 113 y_M_there b_M_there 2 (Option.some Jvm.ClassFile.FieldType.boolean) w_M_there 1 := ⟨⟨gG tw_908, ⟨_, rfl⟩, cG tw_7, by decide, by decide, by decide +kernel⟩, cG tw_905, cG tw_907, cG tp_2_10⟩

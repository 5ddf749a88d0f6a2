abbrev y_D_write : MethodName := ⟨"DeckFront", "write", "(J)Z"⟩
abbrev b_D_write : ByteArray := prog_1_method_2_code
abbrev w_D_write : List Cond := (Jvm.Cond.code ({ cls := "DeckFront", name := "write", desc := "(J)Z" } : Jvm.MethodName) prog_1_method_2_code (3 : Nat) (Option.some Jvm.ClassFile.FieldType.boolean)) :: wG
theorem d_D_write_0 : decode b_D_write 0 = .ok (.aload_n 0, 1) := by decide +kernel
theorem d_D_write_1 : decode b_D_write 1 = .ok (.getfield 10, 3) := by decide +kernel
theorem d_D_write_4 : decode b_D_write 4 = .ok (.lload_n 1, 1) := by decide +kernel
theorem d_D_write_5 : decode b_D_write 5 = .ok (.invokevirtual 30, 3) := by decide +kernel
theorem d_D_write_8 : decode b_D_write 8 = .ok (.ireturn, 1) := by decide +kernel
abbrev y_D_card : MethodName := ⟨"DeckFront", "card", "()I"⟩
abbrev b_D_card : ByteArray := prog_1_method_3_code
abbrev w_D_card : List Cond := (Jvm.Cond.code ({ cls := "DeckFront", name := "card", desc := "()I" } : Jvm.MethodName) prog_1_method_3_code (3 : Nat) (Option.some Jvm.ClassFile.FieldType.int)) :: wG
theorem d_D_card_0 : decode b_D_card 0 = .ok (.aload_n 0, 1) := by decide +kernel
theorem d_D_card_1 : decode b_D_card 1 = .ok (.getfield 19, 3) := by decide +kernel
theorem d_D_card_4 : decode b_D_card 4 = .ok (.aload_n 0, 1) := by decide +kernel
theorem d_D_card_5 : decode b_D_card 5 = .ok (.getfield 10, 3) := by decide +kernel
theorem d_D_card_8 : decode b_D_card 8 = .ok (.invokevirtual 34, 3) := by decide +kernel
theorem d_D_card_11 : decode b_D_card 11 = .ok (.istore_n 1, 1) := by decide +kernel
theorem d_D_card_12 : decode b_D_card 12 = .ok (.aload_n 0, 1) := by decide +kernel
theorem d_D_card_13 : decode b_D_card 13 = .ok (.getfield 10, 3) := by decide +kernel
theorem d_D_card_16 : decode b_D_card 16 = .ok (.iconst 0, 1) := by decide +kernel
theorem d_D_card_17 : decode b_D_card 17 = .ok (.putfield 38, 3) := by decide +kernel
theorem d_D_card_20 : decode b_D_card 20 = .ok (.iload_n 1, 1) := by decide +kernel
theorem d_D_card_21 : decode b_D_card 21 = .ok (.bipush (-2), 2) := by decide +kernel
theorem d_D_card_23 : decode b_D_card 23 = .ok (.if_icmp .ne 13, 3) := by decide +kernel
theorem d_D_card_26 : decode b_D_card 26 = .ok (.new 42, 3) := by decide +kernel
theorem d_D_card_29 : decode b_D_card 29 = .ok (.dup, 1) := by decide +kernel
theorem d_D_card_30 : decode b_D_card 30 = .ok (.ldc 44, 2) := by decide +kernel
theorem d_D_card_32 : decode b_D_card 32 = .ok (.invokespecial 46, 3) := by decide +kernel
theorem d_D_card_35 : decode b_D_card 35 = .ok (.athrow, 1) := by decide +kernel
theorem d_D_card_36 : decode b_D_card 36 = .ok (.iload_n 1, 1) := by decide +kernel
theorem d_D_card_37 : decode b_D_card 37 = .ok (.bipush (-3), 2) := by decide +kernel
theorem d_D_card_39 : decode b_D_card 39 = .ok (.if_icmp .ne 13, 3) := by decide +kernel
theorem d_D_card_42 : decode b_D_card 42 = .ok (.new 49, 3) := by decide +kernel
theorem d_D_card_45 : decode b_D_card 45 = .ok (.dup, 1) := by decide +kernel
theorem d_D_card_46 : decode b_D_card 46 = .ok (.ldc 51, 2) := by decide +kernel
theorem d_D_card_48 : decode b_D_card 48 = .ok (.invokespecial 53, 3) := by decide +kernel
theorem d_D_card_51 : decode b_D_card 51 = .ok (.athrow, 1) := by decide +kernel
theorem d_D_card_52 : decode b_D_card 52 = .ok (.aload_n 0, 1) := by decide +kernel
theorem d_D_card_53 : decode b_D_card 53 = .ok (.getfield 19, 3) := by decide +kernel
theorem d_D_card_56 : decode b_D_card 56 = .ok (.iload_n 1, 1) := by decide +kernel
theorem d_D_card_57 : decode b_D_card 57 = .ok (.invokevirtual 54, 3) := by decide +kernel
theorem d_D_card_60 : decode b_D_card 60 = .ok (.astore_n 2, 1) := by decide +kernel
theorem d_D_card_61 : decode b_D_card 61 = .ok (.aload_n 2, 1) := by decide +kernel
theorem d_D_card_62 : decode b_D_card 62 = .ok (.ifnull 7, 3) := by decide +kernel
theorem d_D_card_65 : decode b_D_card 65 = .ok (.aload_n 2, 1) := by decide +kernel
theorem d_D_card_66 : decode b_D_card 66 = .ok (.invokevirtual 58, 3) := by decide +kernel
theorem d_D_card_69 : decode b_D_card 69 = .ok (.iload_n 1, 1) := by decide +kernel
theorem d_D_card_70 : decode b_D_card 70 = .ok (.ireturn, 1) := by decide +kernel
abbrev y_D_clear : MethodName := ⟨"DeckFront", "clear", "()V"⟩
abbrev b_D_clear : ByteArray := prog_1_method_4_code
abbrev w_D_clear : List Cond := (Jvm.Cond.code ({ cls := "DeckFront", name := "clear", desc := "()V" } : Jvm.MethodName) prog_1_method_4_code (1 : Nat) (Option.none : Option Jvm.ClassFile.FieldType)) :: wG
theorem d_D_clear_0 : decode b_D_clear 0 = .ok (.aload_n 0, 1) := by decide +kernel
theorem d_D_clear_1 : decode b_D_clear 1 = .ok (.getfield 19, 3) := by decide +kernel
theorem d_D_clear_4 : decode b_D_clear 4 = .ok (.iconst 0, 1) := by decide +kernel
theorem d_D_clear_5 : decode b_D_clear 5 = .ok (.putfield 63, 3) := by decide +kernel
theorem d_D_clear_8 : decode b_D_clear 8 = .ok (.return_, 1) := by decide +kernel
abbrev y_D_statements : MethodName := ⟨"DeckFront", "statements", "()I"⟩
abbrev b_D_statements : ByteArray := prog_1_method_5_code
abbrev w_D_statements : List Cond := (Jvm.Cond.code ({ cls := "DeckFront", name := "statements", desc := "()I" } : Jvm.MethodName) prog_1_method_5_code (1 : Nat) (Option.some Jvm.ClassFile.FieldType.int)) :: wG
theorem d_D_statements_0 : decode b_D_statements 0 = .ok (.aload_n 0, 1) := by decide +kernel
theorem d_D_statements_1 : decode b_D_statements 1 = .ok (.getfield 19, 3) := by decide +kernel
theorem d_D_statements_4 : decode b_D_statements 4 = .ok (.getfield 63, 3) := by decide +kernel
theorem d_D_statements_7 : decode b_D_statements 7 = .ok (.ireturn, 1) := by decide +kernel
abbrev y_D_label : MethodName := ⟨"DeckFront", "label", "(I)I"⟩
abbrev b_D_label : ByteArray := prog_1_method_6_code
abbrev w_D_label : List Cond := (Jvm.Cond.code ({ cls := "DeckFront", name := "label", desc := "(I)I" } : Jvm.MethodName) prog_1_method_6_code (3 : Nat) (Option.some Jvm.ClassFile.FieldType.int)) :: wG
theorem d_D_label_0 : decode b_D_label 0 = .ok (.aload_n 0, 1) := by decide +kernel
theorem d_D_label_1 : decode b_D_label 1 = .ok (.getfield 19, 3) := by decide +kernel
theorem d_D_label_4 : decode b_D_label 4 = .ok (.iload_n 1, 1) := by decide +kernel
theorem d_D_label_5 : decode b_D_label 5 = .ok (.invokevirtual 54, 3) := by decide +kernel
theorem d_D_label_8 : decode b_D_label 8 = .ok (.astore_n 2, 1) := by decide +kernel
theorem d_D_label_9 : decode b_D_label 9 = .ok (.aload_n 2, 1) := by decide +kernel
theorem d_D_label_10 : decode b_D_label 10 = .ok (.ifnonnull 7, 3) := by decide +kernel
theorem d_D_label_13 : decode b_D_label 13 = .ok (.iconst (-1), 1) := by decide +kernel
theorem d_D_label_14 : decode b_D_label 14 = .ok (.goto 7, 3) := by decide +kernel
theorem d_D_label_17 : decode b_D_label 17 = .ok (.aload_n 2, 1) := by decide +kernel
theorem d_D_label_18 : decode b_D_label 18 = .ok (.getfield 66, 3) := by decide +kernel
theorem d_D_label_21 : decode b_D_label 21 = .ok (.ireturn, 1) := by decide +kernel
abbrev y_D_what : MethodName := ⟨"DeckFront", "what", "(I)I"⟩
abbrev b_D_what : ByteArray := prog_1_method_7_code
abbrev w_D_what : List Cond := (Jvm.Cond.code ({ cls := "DeckFront", name := "what", desc := "(I)I" } : Jvm.MethodName) prog_1_method_7_code (3 : Nat) (Option.some Jvm.ClassFile.FieldType.int)) :: wG
theorem d_D_what_0 : decode b_D_what 0 = .ok (.aload_n 0, 1) := by decide +kernel
theorem d_D_what_1 : decode b_D_what 1 = .ok (.getfield 19, 3) := by decide +kernel
theorem d_D_what_4 : decode b_D_what 4 = .ok (.iload_n 1, 1) := by decide +kernel
theorem d_D_what_5 : decode b_D_what 5 = .ok (.invokevirtual 54, 3) := by decide +kernel
theorem d_D_what_8 : decode b_D_what 8 = .ok (.astore_n 2, 1) := by decide +kernel
theorem d_D_what_9 : decode b_D_what 9 = .ok (.aload_n 2, 1) := by decide +kernel
theorem d_D_what_10 : decode b_D_what 10 = .ok (.ifnonnull 7, 3) := by decide +kernel
theorem d_D_what_13 : decode b_D_what 13 = .ok (.iconst (-1), 1) := by decide +kernel
theorem d_D_what_14 : decode b_D_what 14 = .ok (.goto 7, 3) := by decide +kernel
theorem d_D_what_17 : decode b_D_what 17 = .ok (.aload_n 2, 1) := by decide +kernel
theorem d_D_what_18 : decode b_D_what 18 = .ok (.getfield 69, 3) := by decide +kernel
theorem d_D_what_21 : decode b_D_what 21 = .ok (.ireturn, 1) := by decide +kernel
abbrev y_D_shown : MethodName := ⟨"DeckFront", "shown", "(II)I"⟩
abbrev b_D_shown : ByteArray := prog_1_method_8_code
abbrev w_D_shown : List Cond := (Jvm.Cond.code ({ cls := "DeckFront", name := "shown", desc := "(II)I" } : Jvm.MethodName) prog_1_method_8_code (4 : Nat) (Option.some Jvm.ClassFile.FieldType.int)) :: wG
theorem d_D_shown_0 : decode b_D_shown 0 = .ok (.aload_n 0, 1) := by decide +kernel
theorem d_D_shown_1 : decode b_D_shown 1 = .ok (.getfield 19, 3) := by decide +kernel
theorem d_D_shown_4 : decode b_D_shown 4 = .ok (.iload_n 1, 1) := by decide +kernel
theorem d_D_shown_5 : decode b_D_shown 5 = .ok (.invokevirtual 54, 3) := by decide +kernel
theorem d_D_shown_8 : decode b_D_shown 8 = .ok (.astore_n 3, 1) := by decide +kernel
theorem d_D_shown_9 : decode b_D_shown 9 = .ok (.aload_n 3, 1) := by decide +kernel
theorem d_D_shown_10 : decode b_D_shown 10 = .ok (.ifnonnull 7, 3) := by decide +kernel
theorem d_D_shown_13 : decode b_D_shown 13 = .ok (.iconst (-1), 1) := by decide +kernel
theorem d_D_shown_14 : decode b_D_shown 14 = .ok (.goto 8, 3) := by decide +kernel
theorem d_D_shown_17 : decode b_D_shown 17 = .ok (.aload_n 3, 1) := by decide +kernel
theorem d_D_shown_18 : decode b_D_shown 18 = .ok (.iload_n 2, 1) := by decide +kernel
theorem d_D_shown_19 : decode b_D_shown 19 = .ok (.invokevirtual 72, 3) := by decide +kernel
theorem d_D_shown_22 : decode b_D_shown 22 = .ok (.ireturn, 1) := by decide +kernel
abbrev y_D_kind : MethodName := ⟨"DeckFront", "kind", "(J)I"⟩
abbrev b_D_kind : ByteArray := prog_1_method_9_code
abbrev w_D_kind : List Cond := (Jvm.Cond.code ({ cls := "DeckFront", name := "kind", desc := "(J)I" } : Jvm.MethodName) prog_1_method_9_code (5 : Nat) (Option.some Jvm.ClassFile.FieldType.int)) :: wG
theorem d_D_kind_0 : decode b_D_kind 0 = .ok (.lload_n 1, 1) := by decide +kernel
theorem d_D_kind_1 : decode b_D_kind 1 = .ok (.invokestatic 76, 3) := by decide +kernel
theorem d_D_kind_4 : decode b_D_kind 4 = .ok (.lstore_n 3, 1) := by decide +kernel
theorem d_D_kind_5 : decode b_D_kind 5 = .ok (.lload_n 3, 1) := by decide +kernel
theorem d_D_kind_6 : decode b_D_kind 6 = .ok (.lconst 0, 1) := by decide +kernel
theorem d_D_kind_7 : decode b_D_kind 7 = .ok (.lcmp, 1) := by decide +kernel
theorem d_D_kind_8 : decode b_D_kind 8 = .ok (.ifCond .ne 7, 3) := by decide +kernel
theorem d_D_kind_11 : decode b_D_kind 11 = .ok (.iconst 0, 1) := by decide +kernel
theorem d_D_kind_12 : decode b_D_kind 12 = .ok (.goto 11, 3) := by decide +kernel
theorem d_D_kind_15 : decode b_D_kind 15 = .ok (.aload_n 0, 1) := by decide +kernel
theorem d_D_kind_16 : decode b_D_kind 16 = .ok (.getfield 19, 3) := by decide +kernel
theorem d_D_kind_19 : decode b_D_kind 19 = .ok (.lload_n 3, 1) := by decide +kernel
theorem d_D_kind_20 : decode b_D_kind 20 = .ok (.invokevirtual 80, 3) := by decide +kernel
theorem d_D_kind_23 : decode b_D_kind 23 = .ok (.ireturn, 1) := by decide +kernel
abbrev y_D_type : MethodName := ⟨"DeckFront", "type", "(J)I"⟩
abbrev b_D_type : ByteArray := prog_1_method_10_code
abbrev w_D_type : List Cond := (Jvm.Cond.code ({ cls := "DeckFront", name := "type", desc := "(J)I" } : Jvm.MethodName) prog_1_method_10_code (5 : Nat) (Option.some Jvm.ClassFile.FieldType.int)) :: wG
theorem d_D_type_0 : decode b_D_type 0 = .ok (.lload_n 1, 1) := by decide +kernel
theorem d_D_type_1 : decode b_D_type 1 = .ok (.invokestatic 76, 3) := by decide +kernel
theorem d_D_type_4 : decode b_D_type 4 = .ok (.lstore_n 3, 1) := by decide +kernel
theorem d_D_type_5 : decode b_D_type 5 = .ok (.lload_n 3, 1) := by decide +kernel
theorem d_D_type_6 : decode b_D_type 6 = .ok (.lconst 0, 1) := by decide +kernel
theorem d_D_type_7 : decode b_D_type 7 = .ok (.lcmp, 1) := by decide +kernel
theorem d_D_type_8 : decode b_D_type 8 = .ok (.ifCond .ne 7, 3) := by decide +kernel
theorem d_D_type_11 : decode b_D_type 11 = .ok (.iconst 0, 1) := by decide +kernel
theorem d_D_type_12 : decode b_D_type 12 = .ok (.goto 11, 3) := by decide +kernel
theorem d_D_type_15 : decode b_D_type 15 = .ok (.aload_n 0, 1) := by decide +kernel
theorem d_D_type_16 : decode b_D_type 16 = .ok (.getfield 19, 3) := by decide +kernel
theorem d_D_type_19 : decode b_D_type 19 = .ok (.lload_n 3, 1) := by decide +kernel
theorem d_D_type_20 : decode b_D_type 20 = .ok (.invokevirtual 84, 3) := by decide +kernel
theorem d_D_type_23 : decode b_D_type 23 = .ok (.ireturn, 1) := by decide +kernel
abbrev y_D_fault : MethodName := ⟨"DeckFront", "fault", "()I"⟩
abbrev b_D_fault : ByteArray := prog_1_method_11_code
abbrev w_D_fault : List Cond := (Jvm.Cond.code ({ cls := "DeckFront", name := "fault", desc := "()I" } : Jvm.MethodName) prog_1_method_11_code (1 : Nat) (Option.some Jvm.ClassFile.FieldType.int)) :: wG
theorem d_D_fault_0 : decode b_D_fault 0 = .ok (.aload_n 0, 1) := by decide +kernel
theorem d_D_fault_1 : decode b_D_fault 1 = .ok (.getfield 26, 3) := by decide +kernel
theorem d_D_fault_4 : decode b_D_fault 4 = .ok (.aload_n 0, 1) := by decide +kernel
theorem d_D_fault_5 : decode b_D_fault 5 = .ok (.getfield 19, 3) := by decide +kernel
theorem d_D_fault_8 : decode b_D_fault 8 = .ok (.invokevirtual 87, 3) := by decide +kernel
theorem d_D_fault_11 : decode b_D_fault 11 = .ok (.aload_n 0, 1) := by decide +kernel
theorem d_D_fault_12 : decode b_D_fault 12 = .ok (.getfield 26, 3) := by decide +kernel
theorem d_D_fault_15 : decode b_D_fault 15 = .ok (.getfield 91, 3) := by decide +kernel
theorem d_D_fault_18 : decode b_D_fault 18 = .ok (.ireturn, 1) := by decide +kernel
abbrev y_D_faultAt : MethodName := ⟨"DeckFront", "faultAt", "()I"⟩
abbrev b_D_faultAt : ByteArray := prog_1_method_12_code
abbrev w_D_faultAt : List Cond := (Jvm.Cond.code ({ cls := "DeckFront", name := "faultAt", desc := "()I" } : Jvm.MethodName) prog_1_method_12_code (1 : Nat) (Option.some Jvm.ClassFile.FieldType.int)) :: wG
theorem d_D_faultAt_0 : decode b_D_faultAt 0 = .ok (.aload_n 0, 1) := by decide +kernel
theorem d_D_faultAt_1 : decode b_D_faultAt 1 = .ok (.getfield 26, 3) := by decide +kernel
theorem d_D_faultAt_4 : decode b_D_faultAt 4 = .ok (.aload_n 0, 1) := by decide +kernel
theorem d_D_faultAt_5 : decode b_D_faultAt 5 = .ok (.getfield 19, 3) := by decide +kernel
theorem d_D_faultAt_8 : decode b_D_faultAt 8 = .ok (.invokevirtual 87, 3) := by decide +kernel
theorem d_D_faultAt_11 : decode b_D_faultAt 11 = .ok (.aload_n 0, 1) := by decide +kernel
theorem d_D_faultAt_12 : decode b_D_faultAt 12 = .ok (.getfield 26, 3) := by decide +kernel
theorem d_D_faultAt_15 : decode b_D_faultAt 15 = .ok (.getfield 94, 3) := by decide +kernel
theorem d_D_faultAt_18 : decode b_D_faultAt 18 = .ok (.ireturn, 1) := by decide +kernel
abbrev y_K_find : MethodName := ⟨"DeckFront$Deck", "find", "(I)LDeckFront$Statement;"⟩
abbrev b_K_find : ByteArray := prog_3_method_2_code
abbrev w_K_find : List Cond := (Jvm.Cond.code ({ cls := "DeckFront$Deck", name := "find", desc := "(I)LDeckFront$Statement;" } : Jvm.MethodName) prog_3_method_2_code (2 : Nat) (Option.some (Jvm.ClassFile.FieldType.object "DeckFront$Statement"))) :: wG
theorem d_K_find_0 : decode b_K_find 0 = .ok (.iload_n 1, 1) := by decide +kernel
theorem d_K_find_1 : decode b_K_find 1 = .ok (.ifCond .lt 11, 3) := by decide +kernel
theorem d_K_find_4 : decode b_K_find 4 = .ok (.iload_n 1, 1) := by decide +kernel
theorem d_K_find_5 : decode b_K_find 5 = .ok (.aload_n 0, 1) := by decide +kernel
theorem d_K_find_6 : decode b_K_find 6 = .ok (.getfield 18, 3) := by decide +kernel
theorem d_K_find_9 : decode b_K_find 9 = .ok (.if_icmp .lt 7, 3) := by decide +kernel
theorem d_K_find_12 : decode b_K_find 12 = .ok (.aconst_null, 1) := by decide +kernel
theorem d_K_find_13 : decode b_K_find 13 = .ok (.goto 9, 3) := by decide +kernel
theorem d_K_find_16 : decode b_K_find 16 = .ok (.aload_n 0, 1) := by decide +kernel
theorem d_K_find_17 : decode b_K_find 17 = .ok (.getfield 11, 3) := by decide +kernel
theorem d_K_find_20 : decode b_K_find 20 = .ok (.iload_n 1, 1) := by decide +kernel
theorem d_K_find_21 : decode b_K_find 21 = .ok (.aaload, 1) := by decide +kernel
theorem d_K_find_22 : decode b_K_find 22 = .ok (.areturn, 1) := by decide +kernel
abbrev y_K_join : MethodName := ⟨"DeckFront$Deck", "join", "(LDeckFront$Card;)I"⟩
abbrev b_K_join : ByteArray := prog_3_method_3_code
abbrev w_K_join : List Cond := (Jvm.Cond.code ({ cls := "DeckFront$Deck", name := "join", desc := "(LDeckFront$Card;)I" } : Jvm.MethodName) prog_3_method_3_code (2 : Nat) (Option.some Jvm.ClassFile.FieldType.int)) :: wG
theorem d_K_join_0 : decode b_K_join 0 = .ok (.aload_n 1, 1) := by decide +kernel
theorem d_K_join_1 : decode b_K_join 1 = .ok (.invokevirtual 22, 3) := by decide +kernel
theorem d_K_join_4 : decode b_K_join 4 = .ok (.ifCond .eq 5, 3) := by decide +kernel
theorem d_K_join_7 : decode b_K_join 7 = .ok (.iconst (-1), 1) := by decide +kernel
theorem d_K_join_8 : decode b_K_join 8 = .ok (.ireturn, 1) := by decide +kernel
theorem d_K_join_9 : decode b_K_join 9 = .ok (.aload_n 1, 1) := by decide +kernel
theorem d_K_join_10 : decode b_K_join 10 = .ok (.invokevirtual 28, 3) := by decide +kernel
theorem d_K_join_13 : decode b_K_join 13 = .ok (.ifCond .ne 6, 3) := by decide +kernel
theorem d_K_join_16 : decode b_K_join 16 = .ok (.bipush (-2), 2) := by decide +kernel
theorem d_K_join_18 : decode b_K_join 18 = .ok (.ireturn, 1) := by decide +kernel
theorem d_K_join_19 : decode b_K_join 19 = .ok (.aload_n 1, 1) := by decide +kernel
theorem d_K_join_20 : decode b_K_join 20 = .ok (.invokevirtual 31, 3) := by decide +kernel
theorem d_K_join_23 : decode b_K_join 23 = .ok (.ifCond .eq 11, 3) := by decide +kernel
theorem d_K_join_26 : decode b_K_join 26 = .ok (.aload_n 0, 1) := by decide +kernel
theorem d_K_join_27 : decode b_K_join 27 = .ok (.aload_n 1, 1) := by decide +kernel
theorem d_K_join_28 : decode b_K_join 28 = .ok (.invokevirtual 34, 3) := by decide +kernel
theorem d_K_join_31 : decode b_K_join 31 = .ok (.goto 8, 3) := by decide +kernel
theorem d_K_join_34 : decode b_K_join 34 = .ok (.aload_n 0, 1) := by decide +kernel
theorem d_K_join_35 : decode b_K_join 35 = .ok (.aload_n 1, 1) := by decide +kernel
theorem d_K_join_36 : decode b_K_join 36 = .ok (.invokevirtual 38, 3) := by decide +kernel
theorem d_K_join_39 : decode b_K_join 39 = .ok (.ireturn, 1) := by decide +kernel
abbrev y_K_begin : MethodName := ⟨"DeckFront$Deck", "begin", "(LDeckFront$Card;)I"⟩
abbrev b_K_begin : ByteArray := prog_3_method_4_code
abbrev w_K_begin : List Cond := (Jvm.Cond.code ({ cls := "DeckFront$Deck", name := "begin", desc := "(LDeckFront$Card;)I" } : Jvm.MethodName) prog_3_method_4_code (3 : Nat) (Option.some Jvm.ClassFile.FieldType.int)) :: wG
theorem d_K_begin_0 : decode b_K_begin 0 = .ok (.aload_n 0, 1) := by decide +kernel
theorem d_K_begin_1 : decode b_K_begin 1 = .ok (.getfield 18, 3) := by decide +kernel
theorem d_K_begin_4 : decode b_K_begin 4 = .ok (.bipush 24, 2) := by decide +kernel
theorem d_K_begin_6 : decode b_K_begin 6 = .ok (.if_icmp .lt 6, 3) := by decide +kernel
theorem d_K_begin_9 : decode b_K_begin 9 = .ok (.bipush (-3), 2) := by decide +kernel
theorem d_K_begin_11 : decode b_K_begin 11 = .ok (.ireturn, 1) := by decide +kernel
theorem d_K_begin_12 : decode b_K_begin 12 = .ok (.aload_n 0, 1) := by decide +kernel
theorem d_K_begin_13 : decode b_K_begin 13 = .ok (.getfield 11, 3) := by decide +kernel
theorem d_K_begin_16 : decode b_K_begin 16 = .ok (.aload_n 0, 1) := by decide +kernel
theorem d_K_begin_17 : decode b_K_begin 17 = .ok (.getfield 18, 3) := by decide +kernel
theorem d_K_begin_20 : decode b_K_begin 20 = .ok (.aaload, 1) := by decide +kernel
theorem d_K_begin_21 : decode b_K_begin 21 = .ok (.astore_n 2, 1) := by decide +kernel
theorem d_K_begin_22 : decode b_K_begin 22 = .ok (.aload_n 2, 1) := by decide +kernel
theorem d_K_begin_23 : decode b_K_begin 23 = .ok (.aload_n 1, 1) := by decide +kernel
theorem d_K_begin_24 : decode b_K_begin 24 = .ok (.invokevirtual 41, 3) := by decide +kernel
theorem d_K_begin_27 : decode b_K_begin 27 = .ok (.putfield 45, 3) := by decide +kernel
theorem d_K_begin_30 : decode b_K_begin 30 = .ok (.aload_n 2, 1) := by decide +kernel
theorem d_K_begin_31 : decode b_K_begin 31 = .ok (.invokevirtual 48, 3) := by decide +kernel
theorem d_K_begin_34 : decode b_K_begin 34 = .ok (.aload_n 2, 1) := by decide +kernel
theorem d_K_begin_35 : decode b_K_begin 35 = .ok (.aload_n 1, 1) := by decide +kernel
theorem d_K_begin_36 : decode b_K_begin 36 = .ok (.invokevirtual 51, 3) := by decide +kernel
theorem d_K_begin_39 : decode b_K_begin 39 = .ok (.ifCond .ne 6, 3) := by decide +kernel
theorem d_K_begin_42 : decode b_K_begin 42 = .ok (.bipush (-3), 2) := by decide +kernel
theorem d_K_begin_44 : decode b_K_begin 44 = .ok (.ireturn, 1) := by decide +kernel
theorem d_K_begin_45 : decode b_K_begin 45 = .ok (.aload_n 0, 1) := by decide +kernel
theorem d_K_begin_46 : decode b_K_begin 46 = .ok (.dup, 1) := by decide +kernel
theorem d_K_begin_47 : decode b_K_begin 47 = .ok (.getfield 18, 3) := by decide +kernel
theorem d_K_begin_50 : decode b_K_begin 50 = .ok (.iconst 1, 1) := by decide +kernel
theorem d_K_begin_51 : decode b_K_begin 51 = .ok (.iadd, 1) := by decide +kernel
theorem d_K_begin_52 : decode b_K_begin 52 = .ok (.putfield 18, 3) := by decide +kernel
theorem d_K_begin_55 : decode b_K_begin 55 = .ok (.aload_n 0, 1) := by decide +kernel
theorem d_K_begin_56 : decode b_K_begin 56 = .ok (.getfield 18, 3) := by decide +kernel
theorem d_K_begin_59 : decode b_K_begin 59 = .ok (.iconst 1, 1) := by decide +kernel
theorem d_K_begin_60 : decode b_K_begin 60 = .ok (.isub, 1) := by decide +kernel
theorem d_K_begin_61 : decode b_K_begin 61 = .ok (.ireturn, 1) := by decide +kernel
abbrev y_K_carryOn : MethodName := ⟨"DeckFront$Deck", "carryOn", "(LDeckFront$Card;)I"⟩
abbrev b_K_carryOn : ByteArray := prog_3_method_5_code
abbrev w_K_carryOn : List Cond := (Jvm.Cond.code ({ cls := "DeckFront$Deck", name := "carryOn", desc := "(LDeckFront$Card;)I" } : Jvm.MethodName) prog_3_method_5_code (3 : Nat) (Option.some Jvm.ClassFile.FieldType.int)) :: wG
theorem d_K_carryOn_0 : decode b_K_carryOn 0 = .ok (.aload_n 0, 1) := by decide +kernel
theorem d_K_carryOn_1 : decode b_K_carryOn 1 = .ok (.aload_n 0, 1) := by decide +kernel
theorem d_K_carryOn_2 : decode b_K_carryOn 2 = .ok (.getfield 18, 3) := by decide +kernel
theorem d_K_carryOn_5 : decode b_K_carryOn 5 = .ok (.iconst 1, 1) := by decide +kernel
theorem d_K_carryOn_6 : decode b_K_carryOn 6 = .ok (.isub, 1) := by decide +kernel
theorem d_K_carryOn_7 : decode b_K_carryOn 7 = .ok (.invokevirtual 55, 3) := by decide +kernel
theorem d_K_carryOn_10 : decode b_K_carryOn 10 = .ok (.astore_n 2, 1) := by decide +kernel
theorem d_K_carryOn_11 : decode b_K_carryOn 11 = .ok (.aload_n 2, 1) := by decide +kernel
theorem d_K_carryOn_12 : decode b_K_carryOn 12 = .ok (.ifnull 11, 3) := by decide +kernel
theorem d_K_carryOn_15 : decode b_K_carryOn 15 = .ok (.aload_n 2, 1) := by decide +kernel
theorem d_K_carryOn_16 : decode b_K_carryOn 16 = .ok (.aload_n 1, 1) := by decide +kernel
theorem d_K_carryOn_17 : decode b_K_carryOn 17 = .ok (.invokevirtual 51, 3) := by decide +kernel
theorem d_K_carryOn_20 : decode b_K_carryOn 20 = .ok (.ifCond .ne 6, 3) := by decide +kernel
theorem d_K_carryOn_23 : decode b_K_carryOn 23 = .ok (.bipush (-3), 2) := by decide +kernel
theorem d_K_carryOn_25 : decode b_K_carryOn 25 = .ok (.ireturn, 1) := by decide +kernel
theorem d_K_carryOn_26 : decode b_K_carryOn 26 = .ok (.aload_n 0, 1) := by decide +kernel
theorem d_K_carryOn_27 : decode b_K_carryOn 27 = .ok (.getfield 18, 3) := by decide +kernel
theorem d_K_carryOn_30 : decode b_K_carryOn 30 = .ok (.iconst 1, 1) := by decide +kernel
theorem d_K_carryOn_31 : decode b_K_carryOn 31 = .ok (.isub, 1) := by decide +kernel
theorem d_K_carryOn_32 : decode b_K_carryOn 32 = .ok (.ireturn, 1) := by decide +kernel
abbrev y_K_kindOf : MethodName := ⟨"DeckFront$Deck", "kindOf", "(J)I"⟩
abbrev b_K_kindOf : ByteArray := prog_3_method_6_code
abbrev w_K_kindOf : List Cond := (Jvm.Cond.code ({ cls := "DeckFront$Deck", name := "kindOf", desc := "(J)I" } : Jvm.MethodName) prog_3_method_6_code (6 : Nat) (Option.some Jvm.ClassFile.FieldType.int)) :: wG
theorem d_K_kindOf_0 : decode b_K_kindOf 0 = .ok (.iconst 0, 1) := by decide +kernel
theorem d_K_kindOf_1 : decode b_K_kindOf 1 = .ok (.istore_n 3, 1) := by decide +kernel
theorem d_K_kindOf_2 : decode b_K_kindOf 2 = .ok (.iconst 0, 1) := by decide +kernel
theorem d_K_kindOf_3 : decode b_K_kindOf 3 = .ok (.istore 4, 2) := by decide +kernel
theorem d_K_kindOf_5 : decode b_K_kindOf 5 = .ok (.iload 4, 2) := by decide +kernel
theorem d_K_kindOf_7 : decode b_K_kindOf 7 = .ok (.aload_n 0, 1) := by decide +kernel
theorem d_K_kindOf_8 : decode b_K_kindOf 8 = .ok (.getfield 18, 3) := by decide +kernel
theorem d_K_kindOf_11 : decode b_K_kindOf 11 = .ok (.if_icmp .ge 40, 3) := by decide +kernel
theorem d_K_kindOf_14 : decode b_K_kindOf 14 = .ok (.aload_n 0, 1) := by decide +kernel
theorem d_K_kindOf_15 : decode b_K_kindOf 15 = .ok (.getfield 11, 3) := by decide +kernel
theorem d_K_kindOf_18 : decode b_K_kindOf 18 = .ok (.iload 4, 2) := by decide +kernel
theorem d_K_kindOf_20 : decode b_K_kindOf 20 = .ok (.aaload, 1) := by decide +kernel
theorem d_K_kindOf_21 : decode b_K_kindOf 21 = .ok (.lload_n 1, 1) := by decide +kernel
theorem d_K_kindOf_22 : decode b_K_kindOf 22 = .ok (.invokevirtual 59, 3) := by decide +kernel
theorem d_K_kindOf_25 : decode b_K_kindOf 25 = .ok (.istore 5, 2) := by decide +kernel
theorem d_K_kindOf_27 : decode b_K_kindOf 27 = .ok (.iload 5, 2) := by decide +kernel
theorem d_K_kindOf_29 : decode b_K_kindOf 29 = .ok (.ifCond .eq 16, 3) := by decide +kernel
theorem d_K_kindOf_32 : decode b_K_kindOf 32 = .ok (.iload_n 3, 1) := by decide +kernel
theorem d_K_kindOf_33 : decode b_K_kindOf 33 = .ok (.ifCond .eq 9, 3) := by decide +kernel
theorem d_K_kindOf_36 : decode b_K_kindOf 36 = .ok (.iload 5, 2) := by decide +kernel
theorem d_K_kindOf_38 : decode b_K_kindOf 38 = .ok (.iload_n 3, 1) := by decide +kernel
theorem d_K_kindOf_39 : decode b_K_kindOf 39 = .ok (.if_icmp .ge 6, 3) := by decide +kernel
theorem d_K_kindOf_42 : decode b_K_kindOf 42 = .ok (.iload 5, 2) := by decide +kernel
theorem d_K_kindOf_44 : decode b_K_kindOf 44 = .ok (.istore_n 3, 1) := by decide +kernel
theorem d_K_kindOf_45 : decode b_K_kindOf 45 = .ok (.iinc 4 1, 3) := by decide +kernel
theorem d_K_kindOf_48 : decode b_K_kindOf 48 = .ok (.goto (-43), 3) := by decide +kernel
theorem d_K_kindOf_51 : decode b_K_kindOf 51 = .ok (.iload_n 3, 1) := by decide +kernel
theorem d_K_kindOf_52 : decode b_K_kindOf 52 = .ok (.ireturn, 1) := by decide +kernel
abbrev y_K_typeOf : MethodName := ⟨"DeckFront$Deck", "typeOf", "(J)I"⟩
abbrev b_K_typeOf : ByteArray := prog_3_method_7_code
abbrev w_K_typeOf : List Cond := (Jvm.Cond.code ({ cls := "DeckFront$Deck", name := "typeOf", desc := "(J)I" } : Jvm.MethodName) prog_3_method_7_code (4 : Nat) (Option.some Jvm.ClassFile.FieldType.int)) :: wG
theorem d_K_typeOf_0 : decode b_K_typeOf 0 = .ok (.iconst 0, 1) := by decide +kernel
theorem d_K_typeOf_1 : decode b_K_typeOf 1 = .ok (.istore_n 3, 1) := by decide +kernel
theorem d_K_typeOf_2 : decode b_K_typeOf 2 = .ok (.iload_n 3, 1) := by decide +kernel
theorem d_K_typeOf_3 : decode b_K_typeOf 3 = .ok (.aload_n 0, 1) := by decide +kernel
theorem d_K_typeOf_4 : decode b_K_typeOf 4 = .ok (.getfield 18, 3) := by decide +kernel
theorem d_K_typeOf_7 : decode b_K_typeOf 7 = .ok (.if_icmp .ge 46, 3) := by decide +kernel
theorem d_K_typeOf_10 : decode b_K_typeOf 10 = .ok (.aload_n 0, 1) := by decide +kernel
theorem d_K_typeOf_11 : decode b_K_typeOf 11 = .ok (.getfield 11, 3) := by decide +kernel
theorem d_K_typeOf_14 : decode b_K_typeOf 14 = .ok (.iload_n 3, 1) := by decide +kernel
theorem d_K_typeOf_15 : decode b_K_typeOf 15 = .ok (.aaload, 1) := by decide +kernel
theorem d_K_typeOf_16 : decode b_K_typeOf 16 = .ok (.getfield 63, 3) := by decide +kernel
theorem d_K_typeOf_19 : decode b_K_typeOf 19 = .ok (.bipush 15, 2) := by decide +kernel
theorem d_K_typeOf_21 : decode b_K_typeOf 21 = .ok (.if_icmp .ne 26, 3) := by decide +kernel
theorem d_K_typeOf_24 : decode b_K_typeOf 24 = .ok (.aload_n 0, 1) := by decide +kernel
theorem d_K_typeOf_25 : decode b_K_typeOf 25 = .ok (.getfield 11, 3) := by decide +kernel
theorem d_K_typeOf_28 : decode b_K_typeOf 28 = .ok (.iload_n 3, 1) := by decide +kernel
theorem d_K_typeOf_29 : decode b_K_typeOf 29 = .ok (.aaload, 1) := by decide +kernel
theorem d_K_typeOf_30 : decode b_K_typeOf 30 = .ok (.lload_n 1, 1) := by decide +kernel
theorem d_K_typeOf_31 : decode b_K_typeOf 31 = .ok (.invokevirtual 59, 3) := by decide +kernel
theorem d_K_typeOf_34 : decode b_K_typeOf 34 = .ok (.ifCond .eq 13, 3) := by decide +kernel
theorem d_K_typeOf_37 : decode b_K_typeOf 37 = .ok (.aload_n 0, 1) := by decide +kernel
theorem d_K_typeOf_38 : decode b_K_typeOf 38 = .ok (.getfield 11, 3) := by decide +kernel
theorem d_K_typeOf_41 : decode b_K_typeOf 41 = .ok (.iload_n 3, 1) := by decide +kernel
theorem d_K_typeOf_42 : decode b_K_typeOf 42 = .ok (.aaload, 1) := by decide +kernel
theorem d_K_typeOf_43 : decode b_K_typeOf 43 = .ok (.invokevirtual 66, 3) := by decide +kernel
theorem d_K_typeOf_46 : decode b_K_typeOf 46 = .ok (.ireturn, 1) := by decide +kernel
theorem d_K_typeOf_47 : decode b_K_typeOf 47 = .ok (.iinc 3 1, 3) := by decide +kernel
theorem d_K_typeOf_50 : decode b_K_typeOf 50 = .ok (.goto (-48), 3) := by decide +kernel
theorem d_K_typeOf_53 : decode b_K_typeOf 53 = .ok (.lload_n 1, 1) := by decide +kernel
theorem d_K_typeOf_54 : decode b_K_typeOf 54 = .ok (.invokestatic 69, 3) := by decide +kernel
theorem d_K_typeOf_57 : decode b_K_typeOf 57 = .ok (.ireturn, 1) := by decide +kernel
abbrev y_K_hasNumber : MethodName := ⟨"DeckFront$Deck", "hasNumber", "(III)Z"⟩
abbrev b_K_hasNumber : ByteArray := prog_3_method_8_code
abbrev w_K_hasNumber : List Cond := (Jvm.Cond.code ({ cls := "DeckFront$Deck", name := "hasNumber", desc := "(III)Z" } : Jvm.MethodName) prog_3_method_8_code (5 : Nat) (Option.some Jvm.ClassFile.FieldType.boolean)) :: wG
theorem d_K_hasNumber_0 : decode b_K_hasNumber 0 = .ok (.iload_n 2, 1) := by decide +kernel
theorem d_K_hasNumber_1 : decode b_K_hasNumber 1 = .ok (.istore 4, 2) := by decide +kernel
theorem d_K_hasNumber_3 : decode b_K_hasNumber 3 = .ok (.iload 4, 2) := by decide +kernel
theorem d_K_hasNumber_5 : decode b_K_hasNumber 5 = .ok (.iload_n 3, 1) := by decide +kernel
theorem d_K_hasNumber_6 : decode b_K_hasNumber 6 = .ok (.if_icmp .ge 38, 3) := by decide +kernel
theorem d_K_hasNumber_9 : decode b_K_hasNumber 9 = .ok (.iload 4, 2) := by decide +kernel
theorem d_K_hasNumber_11 : decode b_K_hasNumber 11 = .ok (.aload_n 0, 1) := by decide +kernel
theorem d_K_hasNumber_12 : decode b_K_hasNumber 12 = .ok (.getfield 18, 3) := by decide +kernel
theorem d_K_hasNumber_15 : decode b_K_hasNumber 15 = .ok (.if_icmp .ge 29, 3) := by decide +kernel
theorem d_K_hasNumber_18 : decode b_K_hasNumber 18 = .ok (.iload_n 1, 1) := by decide +kernel
theorem d_K_hasNumber_19 : decode b_K_hasNumber 19 = .ok (.ifCond .eq 19, 3) := by decide +kernel
theorem d_K_hasNumber_22 : decode b_K_hasNumber 22 = .ok (.aload_n 0, 1) := by decide +kernel
theorem d_K_hasNumber_23 : decode b_K_hasNumber 23 = .ok (.getfield 11, 3) := by decide +kernel
theorem d_K_hasNumber_26 : decode b_K_hasNumber 26 = .ok (.iload 4, 2) := by decide +kernel
theorem d_K_hasNumber_28 : decode b_K_hasNumber 28 = .ok (.aaload, 1) := by decide +kernel
theorem d_K_hasNumber_29 : decode b_K_hasNumber 29 = .ok (.getfield 45, 3) := by decide +kernel
theorem d_K_hasNumber_32 : decode b_K_hasNumber 32 = .ok (.iload_n 1, 1) := by decide +kernel
theorem d_K_hasNumber_33 : decode b_K_hasNumber 33 = .ok (.if_icmp .ne 5, 3) := by decide +kernel
theorem d_K_hasNumber_36 : decode b_K_hasNumber 36 = .ok (.iconst 1, 1) := by decide +kernel
theorem d_K_hasNumber_37 : decode b_K_hasNumber 37 = .ok (.ireturn, 1) := by decide +kernel
theorem d_K_hasNumber_38 : decode b_K_hasNumber 38 = .ok (.iinc 4 1, 3) := by decide +kernel
theorem d_K_hasNumber_41 : decode b_K_hasNumber 41 = .ok (.goto (-38), 3) := by decide +kernel
theorem d_K_hasNumber_44 : decode b_K_hasNumber 44 = .ok (.iconst 0, 1) := by decide +kernel
theorem d_K_hasNumber_45 : decode b_K_hasNumber 45 = .ok (.ireturn, 1) := by decide +kernel
abbrev y_U_look : MethodName := ⟨"DeckFront$Structure", "look", "(LDeckFront$Deck;)V"⟩
abbrev b_U_look : ByteArray := prog_5_method_2_code
abbrev w_U_look : List Cond := (Jvm.Cond.code ({ cls := "DeckFront$Structure", name := "look", desc := "(LDeckFront$Deck;)V" } : Jvm.MethodName) prog_5_method_2_code (3 : Nat) (Option.none : Option Jvm.ClassFile.FieldType)) :: wG
theorem d_U_look_0 : decode b_U_look 0 = .ok (.aload_n 0, 1) := by decide +kernel
theorem d_U_look_1 : decode b_U_look 1 = .ok (.iconst 0, 1) := by decide +kernel
theorem d_U_look_2 : decode b_U_look 2 = .ok (.putfield 15, 3) := by decide +kernel
theorem d_U_look_5 : decode b_U_look 5 = .ok (.aload_n 0, 1) := by decide +kernel
theorem d_U_look_6 : decode b_U_look 6 = .ok (.iconst 0, 1) := by decide +kernel
theorem d_U_look_7 : decode b_U_look 7 = .ok (.putfield 19, 3) := by decide +kernel
theorem d_U_look_10 : decode b_U_look 10 = .ok (.aload_n 0, 1) := by decide +kernel
theorem d_U_look_11 : decode b_U_look 11 = .ok (.iconst (-1), 1) := by decide +kernel
theorem d_U_look_12 : decode b_U_look 12 = .ok (.putfield 22, 3) := by decide +kernel
theorem d_U_look_15 : decode b_U_look 15 = .ok (.iconst 0, 1) := by decide +kernel
theorem d_U_look_16 : decode b_U_look 16 = .ok (.istore_n 2, 1) := by decide +kernel
theorem d_U_look_17 : decode b_U_look 17 = .ok (.iload_n 2, 1) := by decide +kernel
theorem d_U_look_18 : decode b_U_look 18 = .ok (.aload_n 1, 1) := by decide +kernel
theorem d_U_look_19 : decode b_U_look 19 = .ok (.getfield 25, 3) := by decide +kernel
theorem d_U_look_22 : decode b_U_look 22 = .ok (.if_icmp .ge 38, 3) := by decide +kernel
theorem d_U_look_25 : decode b_U_look 25 = .ok (.aload_n 0, 1) := by decide +kernel
theorem d_U_look_26 : decode b_U_look 26 = .ok (.getfield 19, 3) := by decide +kernel
theorem d_U_look_29 : decode b_U_look 29 = .ok (.ifCond .ne 31, 3) := by decide +kernel
theorem d_U_look_32 : decode b_U_look 32 = .ok (.aload_n 0, 1) := by decide +kernel
theorem d_U_look_33 : decode b_U_look 33 = .ok (.aload_n 0, 1) := by decide +kernel
theorem d_U_look_34 : decode b_U_look 34 = .ok (.aload_n 1, 1) := by decide +kernel
theorem d_U_look_35 : decode b_U_look 35 = .ok (.iload_n 2, 1) := by decide +kernel
theorem d_U_look_36 : decode b_U_look 36 = .ok (.invokevirtual 30, 3) := by decide +kernel
theorem d_U_look_39 : decode b_U_look 39 = .ok (.putfield 19, 3) := by decide +kernel
theorem d_U_look_42 : decode b_U_look 42 = .ok (.aload_n 0, 1) := by decide +kernel
theorem d_U_look_43 : decode b_U_look 43 = .ok (.getfield 19, 3) := by decide +kernel
theorem d_U_look_46 : decode b_U_look 46 = .ok (.ifCond .eq 8, 3) := by decide +kernel
theorem d_U_look_49 : decode b_U_look 49 = .ok (.aload_n 0, 1) := by decide +kernel
theorem d_U_look_50 : decode b_U_look 50 = .ok (.iload_n 2, 1) := by decide +kernel
theorem d_U_look_51 : decode b_U_look 51 = .ok (.putfield 22, 3) := by decide +kernel
theorem d_U_look_54 : decode b_U_look 54 = .ok (.iinc 2 1, 3) := by decide +kernel
theorem d_U_look_57 : decode b_U_look 57 = .ok (.goto (-40), 3) := by decide +kernel
theorem d_U_look_60 : decode b_U_look 60 = .ok (.return_, 1) := by decide +kernel
abbrev y_U_faultOf : MethodName := ⟨"DeckFront$Structure", "faultOf", "(LDeckFront$Deck;I)I"⟩
abbrev b_U_faultOf : ByteArray := prog_5_method_3_code
abbrev w_U_faultOf : List Cond := (Jvm.Cond.code ({ cls := "DeckFront$Structure", name := "faultOf", desc := "(LDeckFront$Deck;I)I" } : Jvm.MethodName) prog_5_method_3_code (5 : Nat) (Option.some Jvm.ClassFile.FieldType.int)) :: wG
theorem d_U_faultOf_0 : decode b_U_faultOf 0 = .ok (.aload_n 1, 1) := by decide +kernel
theorem d_U_faultOf_1 : decode b_U_faultOf 1 = .ok (.getfield 34, 3) := by decide +kernel
theorem d_U_faultOf_4 : decode b_U_faultOf 4 = .ok (.iload_n 2, 1) := by decide +kernel
theorem d_U_faultOf_5 : decode b_U_faultOf 5 = .ok (.aaload, 1) := by decide +kernel
theorem d_U_faultOf_6 : decode b_U_faultOf 6 = .ok (.astore_n 3, 1) := by decide +kernel
theorem d_U_faultOf_7 : decode b_U_faultOf 7 = .ok (.aload_n 3, 1) := by decide +kernel
theorem d_U_faultOf_8 : decode b_U_faultOf 8 = .ok (.getfield 38, 3) := by decide +kernel
theorem d_U_faultOf_11 : decode b_U_faultOf 11 = .ok (.ifCond .ne 5, 3) := by decide +kernel
theorem d_U_faultOf_14 : decode b_U_faultOf 14 = .ok (.iconst 1, 1) := by decide +kernel
theorem d_U_faultOf_15 : decode b_U_faultOf 15 = .ok (.ireturn, 1) := by decide +kernel
theorem d_U_faultOf_16 : decode b_U_faultOf 16 = .ok (.aload_n 1, 1) := by decide +kernel
theorem d_U_faultOf_17 : decode b_U_faultOf 17 = .ok (.aload_n 3, 1) := by decide +kernel
theorem d_U_faultOf_18 : decode b_U_faultOf 18 = .ok (.getfield 43, 3) := by decide +kernel
theorem d_U_faultOf_21 : decode b_U_faultOf 21 = .ok (.iconst 0, 1) := by decide +kernel
theorem d_U_faultOf_22 : decode b_U_faultOf 22 = .ok (.iload_n 2, 1) := by decide +kernel
theorem d_U_faultOf_23 : decode b_U_faultOf 23 = .ok (.invokevirtual 46, 3) := by decide +kernel
theorem d_U_faultOf_26 : decode b_U_faultOf 26 = .ok (.ifCond .eq 5, 3) := by decide +kernel
theorem d_U_faultOf_29 : decode b_U_faultOf 29 = .ok (.iconst 2, 1) := by decide +kernel
theorem d_U_faultOf_30 : decode b_U_faultOf 30 = .ok (.ireturn, 1) := by decide +kernel
theorem d_U_faultOf_31 : decode b_U_faultOf 31 = .ok (.aload_n 3, 1) := by decide +kernel
theorem d_U_faultOf_32 : decode b_U_faultOf 32 = .ok (.invokevirtual 50, 3) := by decide +kernel
theorem d_U_faultOf_35 : decode b_U_faultOf 35 = .ok (.ifCond .eq 23, 3) := by decide +kernel
theorem d_U_faultOf_38 : decode b_U_faultOf 38 = .ok (.iload_n 2, 1) := by decide +kernel
theorem d_U_faultOf_39 : decode b_U_faultOf 39 = .ok (.ifCond .le 19, 3) := by decide +kernel
theorem d_U_faultOf_42 : decode b_U_faultOf 42 = .ok (.aload_n 1, 1) := by decide +kernel
theorem d_U_faultOf_43 : decode b_U_faultOf 43 = .ok (.getfield 34, 3) := by decide +kernel
theorem d_U_faultOf_46 : decode b_U_faultOf 46 = .ok (.iload_n 2, 1) := by decide +kernel
theorem d_U_faultOf_47 : decode b_U_faultOf 47 = .ok (.iconst 1, 1) := by decide +kernel
theorem d_U_faultOf_48 : decode b_U_faultOf 48 = .ok (.isub, 1) := by decide +kernel
theorem d_U_faultOf_49 : decode b_U_faultOf 49 = .ok (.aaload, 1) := by decide +kernel
theorem d_U_faultOf_50 : decode b_U_faultOf 50 = .ok (.invokevirtual 50, 3) := by decide +kernel
theorem d_U_faultOf_53 : decode b_U_faultOf 53 = .ok (.ifCond .ne 5, 3) := by decide +kernel
theorem d_U_faultOf_56 : decode b_U_faultOf 56 = .ok (.iconst 3, 1) := by decide +kernel
theorem d_U_faultOf_57 : decode b_U_faultOf 57 = .ok (.ireturn, 1) := by decide +kernel
theorem d_U_faultOf_58 : decode b_U_faultOf 58 = .ok (.aload_n 3, 1) := by decide +kernel
theorem d_U_faultOf_59 : decode b_U_faultOf 59 = .ok (.invokevirtual 54, 3) := by decide +kernel
theorem d_U_faultOf_62 : decode b_U_faultOf 62 = .ok (.ifCond .eq 13, 3) := by decide +kernel
theorem d_U_faultOf_65 : decode b_U_faultOf 65 = .ok (.aload_n 0, 1) := by decide +kernel
theorem d_U_faultOf_66 : decode b_U_faultOf 66 = .ok (.aload_n 3, 1) := by decide +kernel
theorem d_U_faultOf_67 : decode b_U_faultOf 67 = .ok (.invokevirtual 57, 3) := by decide +kernel
theorem d_U_faultOf_70 : decode b_U_faultOf 70 = .ok (.ifCond .ne 5, 3) := by decide +kernel
theorem d_U_faultOf_73 : decode b_U_faultOf 73 = .ok (.iconst 4, 1) := by decide +kernel
theorem d_U_faultOf_74 : decode b_U_faultOf 74 = .ok (.ireturn, 1) := by decide +kernel
theorem d_U_faultOf_75 : decode b_U_faultOf 75 = .ok (.aload_n 0, 1) := by decide +kernel
theorem d_U_faultOf_76 : decode b_U_faultOf 76 = .ok (.aload_n 3, 1) := by decide +kernel
theorem d_U_faultOf_77 : decode b_U_faultOf 77 = .ok (.getfield 43, 3) := by decide +kernel
theorem d_U_faultOf_80 : decode b_U_faultOf 80 = .ok (.invokevirtual 61, 3) := by decide +kernel
theorem d_U_faultOf_83 : decode b_U_faultOf 83 = .ok (.ifCond .eq 23, 3) := by decide +kernel
theorem d_U_faultOf_86 : decode b_U_faultOf 86 = .ok (.aload_n 0, 1) := by decide +kernel
theorem d_U_faultOf_87 : decode b_U_faultOf 87 = .ok (.invokevirtual 65, 3) := by decide +kernel
theorem d_U_faultOf_90 : decode b_U_faultOf 90 = .ok (.aload_n 3, 1) := by decide +kernel
theorem d_U_faultOf_91 : decode b_U_faultOf 91 = .ok (.getfield 43, 3) := by decide +kernel
theorem d_U_faultOf_94 : decode b_U_faultOf 94 = .ok (.if_icmp .ne 10, 3) := by decide +kernel
theorem d_U_faultOf_97 : decode b_U_faultOf 97 = .ok (.aload_n 3, 1) := by decide +kernel
theorem d_U_faultOf_98 : decode b_U_faultOf 98 = .ok (.invokevirtual 69, 3) := by decide +kernel
theorem d_U_faultOf_101 : decode b_U_faultOf 101 = .ok (.ifCond .ne 5, 3) := by decide +kernel
theorem d_U_faultOf_104 : decode b_U_faultOf 104 = .ok (.iconst 5, 1) := by decide +kernel
theorem d_U_faultOf_105 : decode b_U_faultOf 105 = .ok (.ireturn, 1) := by decide +kernel
theorem d_U_faultOf_106 : decode b_U_faultOf 106 = .ok (.aload_n 0, 1) := by decide +kernel
theorem d_U_faultOf_107 : decode b_U_faultOf 107 = .ok (.aload_n 3, 1) := by decide +kernel
theorem d_U_faultOf_108 : decode b_U_faultOf 108 = .ok (.invokevirtual 72, 3) := by decide +kernel
theorem d_U_faultOf_111 : decode b_U_faultOf 111 = .ok (.aload_n 0, 1) := by decide +kernel
theorem d_U_faultOf_112 : decode b_U_faultOf 112 = .ok (.aload_n 1, 1) := by decide +kernel
theorem d_U_faultOf_113 : decode b_U_faultOf 113 = .ok (.iload_n 2, 1) := by decide +kernel
theorem d_U_faultOf_114 : decode b_U_faultOf 114 = .ok (.invokevirtual 76, 3) := by decide +kernel
theorem d_U_faultOf_117 : decode b_U_faultOf 117 = .ok (.ifCond .ne 6, 3) := by decide +kernel
theorem d_U_faultOf_120 : decode b_U_faultOf 120 = .ok (.bipush 6, 2) := by decide +kernel
theorem d_U_faultOf_122 : decode b_U_faultOf 122 = .ok (.ireturn, 1) := by decide +kernel
theorem d_U_faultOf_123 : decode b_U_faultOf 123 = .ok (.iload_n 2, 1) := by decide +kernel
theorem d_U_faultOf_124 : decode b_U_faultOf 124 = .ok (.aload_n 1, 1) := by decide +kernel
theorem d_U_faultOf_125 : decode b_U_faultOf 125 = .ok (.getfield 25, 3) := by decide +kernel
theorem d_U_faultOf_128 : decode b_U_faultOf 128 = .ok (.iconst 1, 1) := by decide +kernel
theorem d_U_faultOf_129 : decode b_U_faultOf 129 = .ok (.isub, 1) := by decide +kernel
theorem d_U_faultOf_130 : decode b_U_faultOf 130 = .ok (.if_icmp .ne 7, 3) := by decide +kernel
theorem d_U_faultOf_133 : decode b_U_faultOf 133 = .ok (.iconst 1, 1) := by decide +kernel
theorem d_U_faultOf_134 : decode b_U_faultOf 134 = .ok (.goto 4, 3) := by decide +kernel
theorem d_U_faultOf_137 : decode b_U_faultOf 137 = .ok (.iconst 0, 1) := by decide +kernel
theorem d_U_faultOf_138 : decode b_U_faultOf 138 = .ok (.istore 4, 2) := by decide +kernel
theorem d_U_faultOf_140 : decode b_U_faultOf 140 = .ok (.aload_n 3, 1) := by decide +kernel
theorem d_U_faultOf_141 : decode b_U_faultOf 141 = .ok (.getfield 38, 3) := by decide +kernel
theorem d_U_faultOf_144 : decode b_U_faultOf 144 = .ok (.bipush 14, 2) := by decide +kernel
theorem d_U_faultOf_146 : decode b_U_faultOf 146 = .ok (.if_icmp .ne 7, 3) := by decide +kernel
theorem d_U_faultOf_149 : decode b_U_faultOf 149 = .ok (.iconst 1, 1) := by decide +kernel
theorem d_U_faultOf_150 : decode b_U_faultOf 150 = .ok (.goto 4, 3) := by decide +kernel
theorem d_U_faultOf_153 : decode b_U_faultOf 153 = .ok (.iconst 0, 1) := by decide +kernel
theorem d_U_faultOf_154 : decode b_U_faultOf 154 = .ok (.iload 4, 2) := by decide +kernel
theorem d_U_faultOf_156 : decode b_U_faultOf 156 = .ok (.if_icmp .eq 6, 3) := by decide +kernel
theorem d_U_faultOf_159 : decode b_U_faultOf 159 = .ok (.bipush 7, 2) := by decide +kernel
theorem d_U_faultOf_161 : decode b_U_faultOf 161 = .ok (.ireturn, 1) := by decide +kernel
theorem d_U_faultOf_162 : decode b_U_faultOf 162 = .ok (.aload_n 3, 1) := by decide +kernel
theorem d_U_faultOf_163 : decode b_U_faultOf 163 = .ok (.getfield 38, 3) := by decide +kernel
theorem d_U_faultOf_166 : decode b_U_faultOf 166 = .ok (.bipush 14, 2) := by decide +kernel
theorem d_U_faultOf_168 : decode b_U_faultOf 168 = .ok (.if_icmp .ne 13, 3) := by decide +kernel
theorem d_U_faultOf_171 : decode b_U_faultOf 171 = .ok (.aload_n 0, 1) := by decide +kernel
theorem d_U_faultOf_172 : decode b_U_faultOf 172 = .ok (.getfield 15, 3) := by decide +kernel
theorem d_U_faultOf_175 : decode b_U_faultOf 175 = .ok (.ifCond .le 6, 3) := by decide +kernel
theorem d_U_faultOf_178 : decode b_U_faultOf 178 = .ok (.bipush 8, 2) := by decide +kernel
theorem d_U_faultOf_180 : decode b_U_faultOf 180 = .ok (.ireturn, 1) := by decide +kernel
theorem d_U_faultOf_181 : decode b_U_faultOf 181 = .ok (.aload_n 0, 1) := by decide +kernel
theorem d_U_faultOf_182 : decode b_U_faultOf 182 = .ok (.aload_n 3, 1) := by decide +kernel
theorem d_U_faultOf_183 : decode b_U_faultOf 183 = .ok (.invokevirtual 80, 3) := by decide +kernel
theorem d_U_faultOf_186 : decode b_U_faultOf 186 = .ok (.iconst 0, 1) := by decide +kernel
theorem d_U_faultOf_187 : decode b_U_faultOf 187 = .ok (.ireturn, 1) := by decide +kernel
abbrev y_U_innermost : MethodName := ⟨"DeckFront$Structure", "innermost", "()I"⟩
abbrev b_U_innermost : ByteArray := prog_5_method_4_code
abbrev w_U_innermost : List Cond := (Jvm.Cond.code ({ cls := "DeckFront$Structure", name := "innermost", desc := "()I" } : Jvm.MethodName) prog_5_method_4_code (1 : Nat) (Option.some Jvm.ClassFile.FieldType.int)) :: wG
theorem d_U_innermost_0 : decode b_U_innermost 0 = .ok (.aload_n 0, 1) := by decide +kernel
theorem d_U_innermost_1 : decode b_U_innermost 1 = .ok (.getfield 15, 3) := by decide +kernel
theorem d_U_innermost_4 : decode b_U_innermost 4 = .ok (.ifCond .le 17, 3) := by decide +kernel
theorem d_U_innermost_7 : decode b_U_innermost 7 = .ok (.aload_n 0, 1) := by decide +kernel
theorem d_U_innermost_8 : decode b_U_innermost 8 = .ok (.getfield 9, 3) := by decide +kernel
theorem d_U_innermost_11 : decode b_U_innermost 11 = .ok (.aload_n 0, 1) := by decide +kernel
theorem d_U_innermost_12 : decode b_U_innermost 12 = .ok (.getfield 15, 3) := by decide +kernel
theorem d_U_innermost_15 : decode b_U_innermost 15 = .ok (.iconst 1, 1) := by decide +kernel
theorem d_U_innermost_16 : decode b_U_innermost 16 = .ok (.isub, 1) := by decide +kernel
theorem d_U_innermost_17 : decode b_U_innermost 17 = .ok (.iaload, 1) := by decide +kernel
theorem d_U_innermost_18 : decode b_U_innermost 18 = .ok (.goto 4, 3) := by decide +kernel
theorem d_U_innermost_21 : decode b_U_innermost 21 = .ok (.iconst 0, 1) := by decide +kernel
theorem d_U_innermost_22 : decode b_U_innermost 22 = .ok (.ireturn, 1) := by decide +kernel
abbrev y_U_isOpen : MethodName := ⟨"DeckFront$Structure", "isOpen", "(I)Z"⟩
abbrev b_U_isOpen : ByteArray := prog_5_method_5_code
abbrev w_U_isOpen : List Cond := (Jvm.Cond.code ({ cls := "DeckFront$Structure", name := "isOpen", desc := "(I)Z" } : Jvm.MethodName) prog_5_method_5_code (3 : Nat) (Option.some Jvm.ClassFile.FieldType.boolean)) :: wG
theorem d_U_isOpen_0 : decode b_U_isOpen 0 = .ok (.iconst 0, 1) := by decide +kernel
theorem d_U_isOpen_1 : decode b_U_isOpen 1 = .ok (.istore_n 2, 1) := by decide +kernel
theorem d_U_isOpen_2 : decode b_U_isOpen 2 = .ok (.iload_n 2, 1) := by decide +kernel
theorem d_U_isOpen_3 : decode b_U_isOpen 3 = .ok (.aload_n 0, 1) := by decide +kernel
theorem d_U_isOpen_4 : decode b_U_isOpen 4 = .ok (.getfield 15, 3) := by decide +kernel
theorem d_U_isOpen_7 : decode b_U_isOpen 7 = .ok (.if_icmp .ge 21, 3) := by decide +kernel
theorem d_U_isOpen_10 : decode b_U_isOpen 10 = .ok (.aload_n 0, 1) := by decide +kernel
theorem d_U_isOpen_11 : decode b_U_isOpen 11 = .ok (.getfield 9, 3) := by decide +kernel
theorem d_U_isOpen_14 : decode b_U_isOpen 14 = .ok (.iload_n 2, 1) := by decide +kernel
theorem d_U_isOpen_15 : decode b_U_isOpen 15 = .ok (.iaload, 1) := by decide +kernel
theorem d_U_isOpen_16 : decode b_U_isOpen 16 = .ok (.iload_n 1, 1) := by decide +kernel
theorem d_U_isOpen_17 : decode b_U_isOpen 17 = .ok (.if_icmp .ne 5, 3) := by decide +kernel
theorem d_U_isOpen_20 : decode b_U_isOpen 20 = .ok (.iconst 1, 1) := by decide +kernel
theorem d_U_isOpen_21 : decode b_U_isOpen 21 = .ok (.ireturn, 1) := by decide +kernel
theorem d_U_isOpen_22 : decode b_U_isOpen 22 = .ok (.iinc 2 1, 3) := by decide +kernel
theorem d_U_isOpen_25 : decode b_U_isOpen 25 = .ok (.goto (-23), 3) := by decide +kernel
theorem d_U_isOpen_28 : decode b_U_isOpen 28 = .ok (.iconst 0, 1) := by decide +kernel
theorem d_U_isOpen_29 : decode b_U_isOpen 29 = .ok (.ireturn, 1) := by decide +kernel
abbrev y_U_branchFits : MethodName := ⟨"DeckFront$Structure", "branchFits", "(LDeckFront$Statement;)Z"⟩
abbrev b_U_branchFits : ByteArray := prog_5_method_6_code
abbrev w_U_branchFits : List Cond := (Jvm.Cond.code ({ cls := "DeckFront$Structure", name := "branchFits", desc := "(LDeckFront$Statement;)Z" } : Jvm.MethodName) prog_5_method_6_code (2 : Nat) (Option.some Jvm.ClassFile.FieldType.boolean)) :: wG
theorem d_U_branchFits_0 : decode b_U_branchFits 0 = .ok (.aload_n 0, 1) := by decide +kernel
theorem d_U_branchFits_1 : decode b_U_branchFits 1 = .ok (.invokevirtual 65, 3) := by decide +kernel
theorem d_U_branchFits_4 : decode b_U_branchFits 4 = .ok (.iconst (-1), 1) := by decide +kernel
theorem d_U_branchFits_5 : decode b_U_branchFits 5 = .ok (.if_icmp .eq 21, 3) := by decide +kernel
theorem d_U_branchFits_8 : decode b_U_branchFits 8 = .ok (.aload_n 0, 1) := by decide +kernel
theorem d_U_branchFits_9 : decode b_U_branchFits 9 = .ok (.invokevirtual 65, 3) := by decide +kernel
theorem d_U_branchFits_12 : decode b_U_branchFits 12 = .ok (.bipush (-2), 2) := by decide +kernel
theorem d_U_branchFits_14 : decode b_U_branchFits 14 = .ok (.if_icmp .ne 16, 3) := by decide +kernel
theorem d_U_branchFits_17 : decode b_U_branchFits 17 = .ok (.aload_n 1, 1) := by decide +kernel
theorem d_U_branchFits_18 : decode b_U_branchFits 18 = .ok (.getfield 38, 3) := by decide +kernel
theorem d_U_branchFits_21 : decode b_U_branchFits 21 = .ok (.bipush 7, 2) := by decide +kernel
theorem d_U_branchFits_23 : decode b_U_branchFits 23 = .ok (.if_icmp .ne 7, 3) := by decide +kernel
theorem d_U_branchFits_26 : decode b_U_branchFits 26 = .ok (.iconst 1, 1) := by decide +kernel
theorem d_U_branchFits_27 : decode b_U_branchFits 27 = .ok (.goto 4, 3) := by decide +kernel
theorem d_U_branchFits_30 : decode b_U_branchFits 30 = .ok (.iconst 0, 1) := by decide +kernel
theorem d_U_branchFits_31 : decode b_U_branchFits 31 = .ok (.ireturn, 1) := by decide +kernel
abbrev y_U_endWhatEnds : MethodName := ⟨"DeckFront$Structure", "endWhatEnds", "(LDeckFront$Statement;)V"⟩
abbrev b_U_endWhatEnds : ByteArray := prog_5_method_7_code
abbrev w_U_endWhatEnds : List Cond := (Jvm.Cond.code ({ cls := "DeckFront$Structure", name := "endWhatEnds", desc := "(LDeckFront$Statement;)V" } : Jvm.MethodName) prog_5_method_7_code (2 : Nat) (Option.none : Option Jvm.ClassFile.FieldType)) :: wG
theorem d_U_endWhatEnds_0 : decode b_U_endWhatEnds 0 = .ok (.aload_n 1, 1) := by decide +kernel
theorem d_U_endWhatEnds_1 : decode b_U_endWhatEnds 1 = .ok (.getfield 38, 3) := by decide +kernel
theorem d_U_endWhatEnds_4 : decode b_U_endWhatEnds 4 = .ok (.bipush 7, 2) := by decide +kernel
theorem d_U_endWhatEnds_6 : decode b_U_endWhatEnds 6 = .ok (.if_icmp .ne 20, 3) := by decide +kernel
theorem d_U_endWhatEnds_9 : decode b_U_endWhatEnds 9 = .ok (.aload_n 0, 1) := by decide +kernel
theorem d_U_endWhatEnds_10 : decode b_U_endWhatEnds 10 = .ok (.getfield 15, 3) := by decide +kernel
theorem d_U_endWhatEnds_13 : decode b_U_endWhatEnds 13 = .ok (.ifCond .le 13, 3) := by decide +kernel
theorem d_U_endWhatEnds_16 : decode b_U_endWhatEnds 16 = .ok (.aload_n 0, 1) := by decide +kernel
theorem d_U_endWhatEnds_17 : decode b_U_endWhatEnds 17 = .ok (.dup, 1) := by decide +kernel
theorem d_U_endWhatEnds_18 : decode b_U_endWhatEnds 18 = .ok (.getfield 15, 3) := by decide +kernel
theorem d_U_endWhatEnds_21 : decode b_U_endWhatEnds 21 = .ok (.iconst 1, 1) := by decide +kernel
theorem d_U_endWhatEnds_22 : decode b_U_endWhatEnds 22 = .ok (.isub, 1) := by decide +kernel
theorem d_U_endWhatEnds_23 : decode b_U_endWhatEnds 23 = .ok (.putfield 15, 3) := by decide +kernel
theorem d_U_endWhatEnds_26 : decode b_U_endWhatEnds 26 = .ok (.aload_n 0, 1) := by decide +kernel
theorem d_U_endWhatEnds_27 : decode b_U_endWhatEnds 27 = .ok (.getfield 15, 3) := by decide +kernel
theorem d_U_endWhatEnds_30 : decode b_U_endWhatEnds 30 = .ok (.ifCond .le 34, 3) := by decide +kernel
theorem d_U_endWhatEnds_33 : decode b_U_endWhatEnds 33 = .ok (.aload_n 0, 1) := by decide +kernel
theorem d_U_endWhatEnds_34 : decode b_U_endWhatEnds 34 = .ok (.getfield 9, 3) := by decide +kernel
theorem d_U_endWhatEnds_37 : decode b_U_endWhatEnds 37 = .ok (.aload_n 0, 1) := by decide +kernel
theorem d_U_endWhatEnds_38 : decode b_U_endWhatEnds 38 = .ok (.getfield 15, 3) := by decide +kernel
theorem d_U_endWhatEnds_41 : decode b_U_endWhatEnds 41 = .ok (.iconst 1, 1) := by decide +kernel
theorem d_U_endWhatEnds_42 : decode b_U_endWhatEnds 42 = .ok (.isub, 1) := by decide +kernel
theorem d_U_endWhatEnds_43 : decode b_U_endWhatEnds 43 = .ok (.iaload, 1) := by decide +kernel
theorem d_U_endWhatEnds_44 : decode b_U_endWhatEnds 44 = .ok (.aload_n 1, 1) := by decide +kernel
theorem d_U_endWhatEnds_45 : decode b_U_endWhatEnds 45 = .ok (.getfield 43, 3) := by decide +kernel
theorem d_U_endWhatEnds_48 : decode b_U_endWhatEnds 48 = .ok (.if_icmp .ne 16, 3) := by decide +kernel
theorem d_U_endWhatEnds_51 : decode b_U_endWhatEnds 51 = .ok (.aload_n 0, 1) := by decide +kernel
theorem d_U_endWhatEnds_52 : decode b_U_endWhatEnds 52 = .ok (.dup, 1) := by decide +kernel
theorem d_U_endWhatEnds_53 : decode b_U_endWhatEnds 53 = .ok (.getfield 15, 3) := by decide +kernel
theorem d_U_endWhatEnds_56 : decode b_U_endWhatEnds 56 = .ok (.iconst 1, 1) := by decide +kernel
theorem d_U_endWhatEnds_57 : decode b_U_endWhatEnds 57 = .ok (.isub, 1) := by decide +kernel
theorem d_U_endWhatEnds_58 : decode b_U_endWhatEnds 58 = .ok (.putfield 15, 3) := by decide +kernel
theorem d_U_endWhatEnds_61 : decode b_U_endWhatEnds 61 = .ok (.goto (-35), 3) := by decide +kernel
theorem d_U_endWhatEnds_64 : decode b_U_endWhatEnds 64 = .ok (.return_, 1) := by decide +kernel
abbrev y_U_hasItsLabels : MethodName := ⟨"DeckFront$Structure", "hasItsLabels", "(LDeckFront$Deck;I)Z"⟩
abbrev b_U_hasItsLabels : ByteArray := prog_5_method_8_code
abbrev w_U_hasItsLabels : List Cond := (Jvm.Cond.code ({ cls := "DeckFront$Structure", name := "hasItsLabels", desc := "(LDeckFront$Deck;I)Z" } : Jvm.MethodName) prog_5_method_8_code (5 : Nat) (Option.some Jvm.ClassFile.FieldType.boolean)) :: wG
theorem d_U_hasItsLabels_0 : decode b_U_hasItsLabels 0 = .ok (.aload_n 1, 1) := by decide +kernel
theorem d_U_hasItsLabels_1 : decode b_U_hasItsLabels 1 = .ok (.getfield 34, 3) := by decide +kernel
theorem d_U_hasItsLabels_4 : decode b_U_hasItsLabels 4 = .ok (.iload_n 2, 1) := by decide +kernel
theorem d_U_hasItsLabels_5 : decode b_U_hasItsLabels 5 = .ok (.aaload, 1) := by decide +kernel
theorem d_U_hasItsLabels_6 : decode b_U_hasItsLabels 6 = .ok (.astore_n 3, 1) := by decide +kernel
theorem d_U_hasItsLabels_7 : decode b_U_hasItsLabels 7 = .ok (.aload_n 3, 1) := by decide +kernel
theorem d_U_hasItsLabels_8 : decode b_U_hasItsLabels 8 = .ok (.getfield 38, 3) := by decide +kernel
theorem d_U_hasItsLabels_11 : decode b_U_hasItsLabels 11 = .ok (.iconst 1, 1) := by decide +kernel
theorem d_U_hasItsLabels_12 : decode b_U_hasItsLabels 12 = .ok (.if_icmp .ne 19, 3) := by decide +kernel
theorem d_U_hasItsLabels_15 : decode b_U_hasItsLabels 15 = .ok (.aload_n 1, 1) := by decide +kernel
theorem d_U_hasItsLabels_16 : decode b_U_hasItsLabels 16 = .ok (.aload_n 3, 1) := by decide +kernel
theorem d_U_hasItsLabels_17 : decode b_U_hasItsLabels 17 = .ok (.invokevirtual 83, 3) := by decide +kernel
theorem d_U_hasItsLabels_20 : decode b_U_hasItsLabels 20 = .ok (.iload_n 2, 1) := by decide +kernel
theorem d_U_hasItsLabels_21 : decode b_U_hasItsLabels 21 = .ok (.iconst 1, 1) := by decide +kernel
theorem d_U_hasItsLabels_22 : decode b_U_hasItsLabels 22 = .ok (.iadd, 1) := by decide +kernel
theorem d_U_hasItsLabels_23 : decode b_U_hasItsLabels 23 = .ok (.aload_n 1, 1) := by decide +kernel
theorem d_U_hasItsLabels_24 : decode b_U_hasItsLabels 24 = .ok (.getfield 25, 3) := by decide +kernel
theorem d_U_hasItsLabels_27 : decode b_U_hasItsLabels 27 = .ok (.invokevirtual 46, 3) := by decide +kernel
theorem d_U_hasItsLabels_30 : decode b_U_hasItsLabels 30 = .ok (.ireturn, 1) := by decide +kernel
theorem d_U_hasItsLabels_31 : decode b_U_hasItsLabels 31 = .ok (.iconst 0, 1) := by decide +kernel
theorem d_U_hasItsLabels_32 : decode b_U_hasItsLabels 32 = .ok (.istore 4, 2) := by decide +kernel
theorem d_U_hasItsLabels_34 : decode b_U_hasItsLabels 34 = .ok (.iload 4, 2) := by decide +kernel
theorem d_U_hasItsLabels_36 : decode b_U_hasItsLabels 36 = .ok (.aload_n 3, 1) := by decide +kernel
theorem d_U_hasItsLabels_37 : decode b_U_hasItsLabels 37 = .ok (.getfield 86, 3) := by decide +kernel
theorem d_U_hasItsLabels_40 : decode b_U_hasItsLabels 40 = .ok (.if_icmp .ge 41, 3) := by decide +kernel
theorem d_U_hasItsLabels_43 : decode b_U_hasItsLabels 43 = .ok (.aload_n 3, 1) := by decide +kernel
theorem d_U_hasItsLabels_44 : decode b_U_hasItsLabels 44 = .ok (.getfield 89, 3) := by decide +kernel
theorem d_U_hasItsLabels_47 : decode b_U_hasItsLabels 47 = .ok (.iload 4, 2) := by decide +kernel
theorem d_U_hasItsLabels_49 : decode b_U_hasItsLabels 49 = .ok (.iaload, 1) := by decide +kernel
theorem d_U_hasItsLabels_50 : decode b_U_hasItsLabels 50 = .ok (.bipush 6, 2) := by decide +kernel
theorem d_U_hasItsLabels_52 : decode b_U_hasItsLabels 52 = .ok (.if_icmp .ne 23, 3) := by decide +kernel
theorem d_U_hasItsLabels_55 : decode b_U_hasItsLabels 55 = .ok (.aload_n 1, 1) := by decide +kernel
theorem d_U_hasItsLabels_56 : decode b_U_hasItsLabels 56 = .ok (.aload_n 3, 1) := by decide +kernel
theorem d_U_hasItsLabels_57 : decode b_U_hasItsLabels 57 = .ok (.iload 4, 2) := by decide +kernel
theorem d_U_hasItsLabels_59 : decode b_U_hasItsLabels 59 = .ok (.invokevirtual 92, 3) := by decide +kernel
theorem d_U_hasItsLabels_62 : decode b_U_hasItsLabels 62 = .ok (.iconst 0, 1) := by decide +kernel
theorem d_U_hasItsLabels_63 : decode b_U_hasItsLabels 63 = .ok (.aload_n 1, 1) := by decide +kernel
theorem d_U_hasItsLabels_64 : decode b_U_hasItsLabels 64 = .ok (.getfield 25, 3) := by decide +kernel
theorem d_U_hasItsLabels_67 : decode b_U_hasItsLabels 67 = .ok (.invokevirtual 46, 3) := by decide +kernel
theorem d_U_hasItsLabels_70 : decode b_U_hasItsLabels 70 = .ok (.ifCond .ne 5, 3) := by decide +kernel
theorem d_U_hasItsLabels_73 : decode b_U_hasItsLabels 73 = .ok (.iconst 0, 1) := by decide +kernel
theorem d_U_hasItsLabels_74 : decode b_U_hasItsLabels 74 = .ok (.ireturn, 1) := by decide +kernel
theorem d_U_hasItsLabels_75 : decode b_U_hasItsLabels 75 = .ok (.iinc 4 1, 3) := by decide +kernel
theorem d_U_hasItsLabels_78 : decode b_U_hasItsLabels 78 = .ok (.goto (-44), 3) := by decide +kernel
theorem d_U_hasItsLabels_81 : decode b_U_hasItsLabels 81 = .ok (.iconst 1, 1) := by decide +kernel
theorem d_U_hasItsLabels_82 : decode b_U_hasItsLabels 82 = .ok (.ireturn, 1) := by decide +kernel
abbrev y_U_openWhatOpens : MethodName := ⟨"DeckFront$Structure", "openWhatOpens", "(LDeckFront$Statement;)V"⟩
abbrev b_U_openWhatOpens : ByteArray := prog_5_method_9_code
abbrev w_U_openWhatOpens : List Cond := (Jvm.Cond.code ({ cls := "DeckFront$Structure", name := "openWhatOpens", desc := "(LDeckFront$Statement;)V" } : Jvm.MethodName) prog_5_method_9_code (2 : Nat) (Option.none : Option Jvm.ClassFile.FieldType)) :: wG
theorem d_U_openWhatOpens_0 : decode b_U_openWhatOpens 0 = .ok (.aload_n 1, 1) := by decide +kernel
theorem d_U_openWhatOpens_1 : decode b_U_openWhatOpens 1 = .ok (.getfield 38, 3) := by decide +kernel
theorem d_U_openWhatOpens_4 : decode b_U_openWhatOpens 4 = .ok (.bipush 6, 2) := by decide +kernel
theorem d_U_openWhatOpens_6 : decode b_U_openWhatOpens 6 = .ok (.if_icmp .ne 23, 3) := by decide +kernel
theorem d_U_openWhatOpens_9 : decode b_U_openWhatOpens 9 = .ok (.aload_n 0, 1) := by decide +kernel
theorem d_U_openWhatOpens_10 : decode b_U_openWhatOpens 10 = .ok (.getfield 15, 3) := by decide +kernel
theorem d_U_openWhatOpens_13 : decode b_U_openWhatOpens 13 = .ok (.ifCond .le 16, 3) := by decide +kernel
theorem d_U_openWhatOpens_16 : decode b_U_openWhatOpens 16 = .ok (.aload_n 0, 1) := by decide +kernel
theorem d_U_openWhatOpens_17 : decode b_U_openWhatOpens 17 = .ok (.getfield 9, 3) := by decide +kernel
theorem d_U_openWhatOpens_20 : decode b_U_openWhatOpens 20 = .ok (.aload_n 0, 1) := by decide +kernel
theorem d_U_openWhatOpens_21 : decode b_U_openWhatOpens 21 = .ok (.getfield 15, 3) := by decide +kernel
theorem d_U_openWhatOpens_24 : decode b_U_openWhatOpens 24 = .ok (.iconst 1, 1) := by decide +kernel
theorem d_U_openWhatOpens_25 : decode b_U_openWhatOpens 25 = .ok (.isub, 1) := by decide +kernel
theorem d_U_openWhatOpens_26 : decode b_U_openWhatOpens 26 = .ok (.bipush (-2), 2) := by decide +kernel
theorem d_U_openWhatOpens_28 : decode b_U_openWhatOpens 28 = .ok (.iastore, 1) := by decide +kernel
theorem d_U_openWhatOpens_29 : decode b_U_openWhatOpens 29 = .ok (.aload_n 1, 1) := by decide +kernel
theorem d_U_openWhatOpens_30 : decode b_U_openWhatOpens 30 = .ok (.getfield 38, 3) := by decide +kernel
theorem d_U_openWhatOpens_33 : decode b_U_openWhatOpens 33 = .ok (.iconst 1, 1) := by decide +kernel
theorem d_U_openWhatOpens_34 : decode b_U_openWhatOpens 34 = .ok (.if_icmp .eq 11, 3) := by decide +kernel
theorem d_U_openWhatOpens_37 : decode b_U_openWhatOpens 37 = .ok (.aload_n 1, 1) := by decide +kernel
theorem d_U_openWhatOpens_38 : decode b_U_openWhatOpens 38 = .ok (.getfield 38, 3) := by decide +kernel
theorem d_U_openWhatOpens_41 : decode b_U_openWhatOpens 41 = .ok (.iconst 3, 1) := by decide +kernel
theorem d_U_openWhatOpens_42 : decode b_U_openWhatOpens 42 = .ok (.if_icmp .ne 47, 3) := by decide +kernel
theorem d_U_openWhatOpens_45 : decode b_U_openWhatOpens 45 = .ok (.aload_n 0, 1) := by decide +kernel
theorem d_U_openWhatOpens_46 : decode b_U_openWhatOpens 46 = .ok (.getfield 15, 3) := by decide +kernel
theorem d_U_openWhatOpens_49 : decode b_U_openWhatOpens 49 = .ok (.bipush 24, 2) := by decide +kernel
theorem d_U_openWhatOpens_51 : decode b_U_openWhatOpens 51 = .ok (.if_icmp .ge 38, 3) := by decide +kernel
theorem d_U_openWhatOpens_54 : decode b_U_openWhatOpens 54 = .ok (.aload_n 0, 1) := by decide +kernel
theorem d_U_openWhatOpens_55 : decode b_U_openWhatOpens 55 = .ok (.getfield 9, 3) := by decide +kernel
theorem d_U_openWhatOpens_58 : decode b_U_openWhatOpens 58 = .ok (.aload_n 0, 1) := by decide +kernel
theorem d_U_openWhatOpens_59 : decode b_U_openWhatOpens 59 = .ok (.getfield 15, 3) := by decide +kernel
theorem d_U_openWhatOpens_62 : decode b_U_openWhatOpens 62 = .ok (.aload_n 1, 1) := by decide +kernel
theorem d_U_openWhatOpens_63 : decode b_U_openWhatOpens 63 = .ok (.getfield 38, 3) := by decide +kernel
theorem d_U_openWhatOpens_66 : decode b_U_openWhatOpens 66 = .ok (.iconst 1, 1) := by decide +kernel
theorem d_U_openWhatOpens_67 : decode b_U_openWhatOpens 67 = .ok (.if_icmp .ne 10, 3) := by decide +kernel
theorem d_U_openWhatOpens_70 : decode b_U_openWhatOpens 70 = .ok (.aload_n 1, 1) := by decide +kernel
theorem d_U_openWhatOpens_71 : decode b_U_openWhatOpens 71 = .ok (.invokevirtual 83, 3) := by decide +kernel
theorem d_U_openWhatOpens_74 : decode b_U_openWhatOpens 74 = .ok (.goto 4, 3) := by decide +kernel
theorem d_U_openWhatOpens_77 : decode b_U_openWhatOpens 77 = .ok (.iconst (-1), 1) := by decide +kernel
theorem d_U_openWhatOpens_78 : decode b_U_openWhatOpens 78 = .ok (.iastore, 1) := by decide +kernel
theorem d_U_openWhatOpens_79 : decode b_U_openWhatOpens 79 = .ok (.aload_n 0, 1) := by decide +kernel
theorem d_U_openWhatOpens_80 : decode b_U_openWhatOpens 80 = .ok (.dup, 1) := by decide +kernel
theorem d_U_openWhatOpens_81 : decode b_U_openWhatOpens 81 = .ok (.getfield 15, 3) := by decide +kernel
theorem d_U_openWhatOpens_84 : decode b_U_openWhatOpens 84 = .ok (.iconst 1, 1) := by decide +kernel
theorem d_U_openWhatOpens_85 : decode b_U_openWhatOpens 85 = .ok (.iadd, 1) := by decide +kernel
theorem d_U_openWhatOpens_86 : decode b_U_openWhatOpens 86 = .ok (.putfield 15, 3) := by decide +kernel
theorem d_U_openWhatOpens_89 : decode b_U_openWhatOpens 89 = .ok (.return_, 1) := by decide +kernel
theorem k_D_30 {a : Cond} : xkV (a :: wG) "DeckFront" 30 "DeckFront$Card" y_C_append b_C_append 6 (Option.some Jvm.ClassFile.FieldType.boolean) w_C_append 1 := ⟨⟨gG tw_154, ⟨_, rfl⟩, cG tw_2, by decide, by decide, by decide +kernel⟩, cG tw_151, cG tw_152, fun _ _ h => h _ (cG tw_153)⟩
theorem k_D_34 {a : Cond} : xkV (a :: wG) "DeckFront" 34 "DeckFront$Deck" y_K_join b_K_join 2 (Option.some Jvm.ClassFile.FieldType.int) w_K_join 1 := ⟨⟨gG tw_405, ⟨_, rfl⟩, cG tw_3, by decide, by decide, by decide +kernel⟩, cG tw_402, cG tw_403, fun _ _ h => h _ (cG tw_404)⟩
theorem k_D_54 {a : Cond} : xkV (a :: wG) "DeckFront" 54 "DeckFront$Deck" y_K_find b_K_find 2 (Option.some (Jvm.ClassFile.FieldType.object "DeckFront$Statement")) w_K_find 1 := ⟨⟨gG tw_267, ⟨_, rfl⟩, cG tw_3, by decide, by decide, by decide +kernel⟩, cG tw_264, cG tw_265, fun _ _ h => h _ (cG tw_266)⟩
theorem k_D_58 {a : Cond} : xkV (a :: wG) "DeckFront" 58 "DeckFront$Statement" y_S_recognise b_S_recognise 1 (Option.none : Option Jvm.ClassFile.FieldType) w_S_recognise 0 := ⟨⟨gG tw_533, ⟨_, rfl⟩, cG tw_5, by decide, by decide, by decide +kernel⟩, cG tw_530, cG tw_531, fun _ _ h => h _ (cG tw_532)⟩
theorem k_D_72 {a : Cond} : xkU (a :: wG) "DeckFront" 72 "DeckFront$Statement" "DeckFront$Tape" ({ cls := "DeckFront$Statement", name := "signShown", desc := "(I)I" } : Jvm.MethodName) y_T_signShown b_T_signShown 4 (Option.some Jvm.ClassFile.FieldType.int) w_T_signShown 1 := ⟨⟨gG tw_281, ⟨_, rfl⟩, cG tw_4, by decide, by decide, by decide +kernel⟩, cG tw_276, cG tw_277, cG tw_280, cG tw_279, rfl⟩
theorem k_D_76 {a : Cond} : xkS (a :: wG) "DeckFront" 76 y_D_nameOf b_D_nameOf 8 (Option.some Jvm.ClassFile.FieldType.long) w_D_nameOf 1 := ⟨⟨gG tw_288, ⟨_, rfl⟩, cG tw_1, by decide, by decide, by decide +kernel⟩, cG tw_286, cG tw_287⟩
theorem k_D_80 {a : Cond} : xkV (a :: wG) "DeckFront" 80 "DeckFront$Deck" y_K_kindOf b_K_kindOf 6 (Option.some Jvm.ClassFile.FieldType.int) w_K_kindOf 1 := ⟨⟨gG tw_294, ⟨_, rfl⟩, cG tw_3, by decide, by decide, by decide +kernel⟩, cG tw_291, cG tw_292, fun _ _ h => h _ (cG tw_293)⟩
theorem k_D_84 {a : Cond} : xkV (a :: wG) "DeckFront" 84 "DeckFront$Deck" y_K_typeOf b_K_typeOf 4 (Option.some Jvm.ClassFile.FieldType.int) w_K_typeOf 1 := ⟨⟨gG tw_314, ⟨_, rfl⟩, cG tw_3, by decide, by decide, by decide +kernel⟩, cG tw_311, cG tw_312, fun _ _ h => h _ (cG tw_313)⟩
theorem k_D_87 {a : Cond} : xkV (a :: wG) "DeckFront" 87 "DeckFront$Structure" y_U_look b_U_look 3 (Option.none : Option Jvm.ClassFile.FieldType) w_U_look 1 := ⟨⟨gG tw_332, ⟨_, rfl⟩, cG tw_6, by decide, by decide, by decide +kernel⟩, cG tw_329, cG tw_330, fun _ _ h => h _ (cG tw_331)⟩
theorem k_K_22 {a : Cond} : xkV (a :: wG) "DeckFront$Deck" 22 "DeckFront$Card" y_C_isComment b_C_isComment 1 (Option.some Jvm.ClassFile.FieldType.boolean) w_C_isComment 0 := ⟨⟨gG tw_409, ⟨_, rfl⟩, cG tw_2, by decide, by decide, by decide +kernel⟩, cG tw_406, cG tw_407, fun _ _ h => h _ (cG tw_408)⟩
theorem k_K_28 {a : Cond} : xkV (a :: wG) "DeckFront$Deck" 28 "DeckFront$Card" y_C_hasGoodLabelField b_C_hasGoodLabelField 2 (Option.some Jvm.ClassFile.FieldType.boolean) w_C_hasGoodLabelField 0 := ⟨⟨gG tw_417, ⟨_, rfl⟩, cG tw_2, by decide, by decide, by decide +kernel⟩, cG tw_414, cG tw_415, fun _ _ h => h _ (cG tw_416)⟩
theorem k_K_31 {a : Cond} : xkV (a :: wG) "DeckFront$Deck" 31 "DeckFront$Card" y_C_continuesOne b_C_continuesOne 1 (Option.some Jvm.ClassFile.FieldType.boolean) w_C_continuesOne 0 := ⟨⟨gG tw_421, ⟨_, rfl⟩, cG tw_2, by decide, by decide, by decide +kernel⟩, cG tw_422, cG tw_419, fun _ _ h => h _ (cG tw_420)⟩
theorem k_K_34 {a : Cond} : xkV (a :: wG) "DeckFront$Deck" 34 "DeckFront$Deck" y_K_carryOn b_K_carryOn 3 (Option.some Jvm.ClassFile.FieldType.int) w_K_carryOn 1 := ⟨⟨gG tw_426, ⟨_, rfl⟩, cG tw_3, by decide, by decide, by decide +kernel⟩, cG tw_423, cG tw_425, fun _ _ h => h _ (cG tp_1_7)⟩
theorem k_K_38 {a : Cond} : xkV (a :: wG) "DeckFront$Deck" 38 "DeckFront$Deck" y_K_begin b_K_begin 3 (Option.some Jvm.ClassFile.FieldType.int) w_K_begin 1 := ⟨⟨gG tw_437, ⟨_, rfl⟩, cG tw_3, by decide, by decide, by decide +kernel⟩, cG tw_434, cG tw_436, fun _ _ h => h _ (cG tp_1_8)⟩
theorem k_K_41 {a : Cond} : xkV (a :: wG) "DeckFront$Deck" 41 "DeckFront$Card" y_C_numberInLabelField b_C_numberInLabelField 3 (Option.some Jvm.ClassFile.FieldType.int) w_C_numberInLabelField 0 := ⟨⟨gG tw_441, ⟨_, rfl⟩, cG tw_2, by decide, by decide, by decide +kernel⟩, cG tw_438, cG tw_439, fun _ _ h => h _ (cG tw_440)⟩
theorem k_K_48 {a : Cond} : xkU (a :: wG) "DeckFront$Deck" 48 "DeckFront$Statement" "DeckFront$Tape" ({ cls := "DeckFront$Statement", name := "wipe", desc := "()V" } : Jvm.MethodName) y_T_wipe b_T_wipe 1 (Option.none : Option Jvm.ClassFile.FieldType) w_T_wipe 0 := ⟨⟨gG tw_447, ⟨_, rfl⟩, cG tw_4, by decide, by decide, by decide +kernel⟩, cG tw_442, cG tw_443, cG tw_446, cG tw_445, rfl⟩
theorem k_K_51 {a : Cond} : xkU (a :: wG) "DeckFront$Deck" 51 "DeckFront$Statement" "DeckFront$Tape" ({ cls := "DeckFront$Statement", name := "append", desc := "(LDeckFront$Card;)Z" } : Jvm.MethodName) y_T_append b_T_append 6 (Option.some Jvm.ClassFile.FieldType.boolean) w_T_append 1 := ⟨⟨gG tw_433, ⟨_, rfl⟩, cG tw_4, by decide, by decide, by decide +kernel⟩, cG tw_428, cG tw_429, cG tw_432, cG tw_431, rfl⟩
theorem k_K_55 {a : Cond} : xkV (a :: wG) "DeckFront$Deck" 55 "DeckFront$Deck" y_K_find b_K_find 2 (Option.some (Jvm.ClassFile.FieldType.object "DeckFront$Statement")) w_K_find 1 := ⟨⟨gG tw_267, ⟨_, rfl⟩, cG tw_3, by decide, by decide, by decide +kernel⟩, cG tw_427, cG tw_265, fun _ _ h => h _ (cG tw_266)⟩
theorem k_K_59 {a : Cond} : xkU (a :: wG) "DeckFront$Deck" 59 "DeckFront$Statement" "DeckFront$Tape" ({ cls := "DeckFront$Statement", name := "kindHere", desc := "(J)I" } : Jvm.MethodName) y_T_kindHere b_T_kindHere 6 (Option.some Jvm.ClassFile.FieldType.int) w_T_kindHere 1 := ⟨⟨gG tw_300, ⟨_, rfl⟩, cG tw_4, by decide, by decide, by decide +kernel⟩, cG tw_295, cG tw_296, cG tw_299, cG tw_298, rfl⟩
theorem k_K_66 {a : Cond} : xkV (a :: wG) "DeckFront$Deck" 66 "DeckFront$Statement" y_S_typeTold b_S_typeTold 1 (Option.some Jvm.ClassFile.FieldType.int) w_S_typeTold 0 := ⟨⟨gG tw_318, ⟨_, rfl⟩, cG tw_5, by decide, by decide, by decide +kernel⟩, cG tw_315, cG tw_316, fun _ _ h => h _ (cG tw_317)⟩
theorem k_K_69 {Ev : (Nat → Prop) → State → Prop} {adK adV : Nat → Nat} {fm : Option Nat} (X : xEv adK adV fm Ev) {a : Cond} : xkSN Ev (a :: wG) "DeckFront$Deck" 69 y_D_typeByLetter b_D_typeByLetter 5 (Option.some Jvm.ClassFile.FieldType.int) w_D_typeByLetter 1 := ⟨⟨gG tw_321, ⟨_, rfl⟩, cG tw_1, by decide, by decide, by decide +kernel⟩, ⟨_, fun A s h => (X A s h).2.2.1 _ (List.mem_of_getElem? (i := 8) rfl)⟩, cG tw_320⟩
theorem k_U_30 {a : Cond} : xkV (a :: wG) "DeckFront$Structure" 30 "DeckFront$Structure" y_U_faultOf b_U_faultOf 5 (Option.some Jvm.ClassFile.FieldType.int) w_U_faultOf 2 := ⟨⟨gG tw_336, ⟨_, rfl⟩, cG tw_6, by decide, by decide, by decide +kernel⟩, cG tw_333, cG tw_335, fun _ _ h => h _ (cG tp_1_0)⟩
theorem k_U_46 {a : Cond} : xkV (a :: wG) "DeckFront$Structure" 46 "DeckFront$Deck" y_K_hasNumber b_K_hasNumber 5 (Option.some Jvm.ClassFile.FieldType.boolean) w_K_hasNumber 3 := ⟨⟨gG tw_340, ⟨_, rfl⟩, cG tw_3, by decide, by decide, by decide +kernel⟩, cG tw_337, cG tw_338, fun _ _ h => h _ (cG tw_339)⟩
theorem k_U_50 {a : Cond} : xkV (a :: wG) "DeckFront$Structure" 50 "DeckFront$Statement" y_S_declares b_S_declares 1 (Option.some Jvm.ClassFile.FieldType.boolean) w_S_declares 0 := ⟨⟨gG tw_344, ⟨_, rfl⟩, cG tw_5, by decide, by decide, by decide +kernel⟩, cG tw_341, cG tw_342, fun _ _ h => h _ (cG tw_343)⟩
theorem k_U_54 {a : Cond} : xkV (a :: wG) "DeckFront$Structure" 54 "DeckFront$Statement" y_S_isBranch b_S_isBranch 1 (Option.some Jvm.ClassFile.FieldType.boolean) w_S_isBranch 0 := ⟨⟨gG tw_348, ⟨_, rfl⟩, cG tw_5, by decide, by decide, by decide +kernel⟩, cG tw_345, cG tw_346, fun _ _ h => h _ (cG tw_347)⟩
theorem k_U_57 {a : Cond} : xkV (a :: wG) "DeckFront$Structure" 57 "DeckFront$Structure" y_U_branchFits b_U_branchFits 2 (Option.some Jvm.ClassFile.FieldType.boolean) w_U_branchFits 1 := ⟨⟨gG tw_352, ⟨_, rfl⟩, cG tw_6, by decide, by decide, by decide +kernel⟩, cG tw_349, cG tw_351, fun _ _ h => h _ (cG tp_1_1)⟩
theorem k_U_61 {a : Cond} : xkV (a :: wG) "DeckFront$Structure" 61 "DeckFront$Structure" y_U_isOpen b_U_isOpen 3 (Option.some Jvm.ClassFile.FieldType.boolean) w_U_isOpen 1 := ⟨⟨gG tw_360, ⟨_, rfl⟩, cG tw_6, by decide, by decide, by decide +kernel⟩, cG tw_357, cG tw_359, fun _ _ h => h _ (cG tp_1_3)⟩
theorem k_U_65 {a : Cond} : xkV (a :: wG) "DeckFront$Structure" 65 "DeckFront$Structure" y_U_innermost b_U_innermost 1 (Option.some Jvm.ClassFile.FieldType.int) w_U_innermost 0 := ⟨⟨gG tw_356, ⟨_, rfl⟩, cG tw_6, by decide, by decide, by decide +kernel⟩, cG tw_353, cG tw_355, fun _ _ h => h _ (cG tp_1_2)⟩
theorem k_U_69 {a : Cond} : xkV (a :: wG) "DeckFront$Structure" 69 "DeckFront$Statement" y_S_mayEndLoop b_S_mayEndLoop 1 (Option.some Jvm.ClassFile.FieldType.boolean) w_S_mayEndLoop 0 := ⟨⟨gG tw_364, ⟨_, rfl⟩, cG tw_5, by decide, by decide, by decide +kernel⟩, cG tw_361, cG tw_362, fun _ _ h => h _ (cG tw_363)⟩
theorem k_U_72 {a : Cond} : xkV (a :: wG) "DeckFront$Structure" 72 "DeckFront$Structure" y_U_endWhatEnds b_U_endWhatEnds 2 (Option.none : Option Jvm.ClassFile.FieldType) w_U_endWhatEnds 1 := ⟨⟨gG tw_369, ⟨_, rfl⟩, cG tw_6, by decide, by decide, by decide +kernel⟩, cG tw_366, cG tw_368, fun _ _ h => h _ (cG tp_1_4)⟩
theorem k_U_76 {a : Cond} : xkV (a :: wG) "DeckFront$Structure" 76 "DeckFront$Structure" y_U_hasItsLabels b_U_hasItsLabels 5 (Option.some Jvm.ClassFile.FieldType.boolean) w_U_hasItsLabels 2 := ⟨⟨gG tw_373, ⟨_, rfl⟩, cG tw_6, by decide, by decide, by decide +kernel⟩, cG tw_370, cG tw_372, fun _ _ h => h _ (cG tp_1_5)⟩
theorem k_U_80 {a : Cond} : xkV (a :: wG) "DeckFront$Structure" 80 "DeckFront$Structure" y_U_openWhatOpens b_U_openWhatOpens 2 (Option.none : Option Jvm.ClassFile.FieldType) w_U_openWhatOpens 1 := ⟨⟨gG tw_388, ⟨_, rfl⟩, cG tw_6, by decide, by decide, by decide +kernel⟩, cG tw_385, cG tw_387, fun _ _ h => h _ (cG tp_1_6)⟩
theorem k_U_83 {a : Cond} : xkV (a :: wG) "DeckFront$Structure" 83 "DeckFront$Statement" y_S_loopNumber b_S_loopNumber 2 (Option.some Jvm.ClassFile.FieldType.int) w_S_loopNumber 0 := ⟨⟨gG tw_377, ⟨_, rfl⟩, cG tw_5, by decide, by decide, by decide +kernel⟩, cG tw_374, cG tw_375, fun _ _ h => h _ (cG tw_376)⟩
theorem k_U_92 {a : Cond} : xkU (a :: wG) "DeckFront$Structure" 92 "DeckFront$Statement" "DeckFront$Tape" ({ cls := "DeckFront$Statement", name := "numberAt", desc := "(I)I" } : Jvm.MethodName) y_T_numberAt b_T_numberAt 4 (Option.some Jvm.ClassFile.FieldType.int) w_T_numberAt 1 := ⟨⟨gG tw_383, ⟨_, rfl⟩, cG tw_4, by decide, by decide, by decide +kernel⟩, cG tw_384, cG tw_379, cG tw_382, cG tw_381, rfl⟩
section
variable (o : Nat) (a : Nat → Nat) (co : Nat) (ca : Nat → Nat) (cs : Nat → ClassId) (v u : MS)
theorem eSC_o : (wdSC o a co ca cs v u)[0]? = some (o, .inr (2, fsS a u)) := rfl
theorem eSC_c : (wdSC o a co ca cs v u)[5]? = some (co, .inr (0, fsC ca v)) := rfl
theorem eSC_ca : (wdSC o a co ca cs v u)[6]? = some (ca 0, .inl (cs 1, 72, .inl (gA v 0))) := rfl
theorem eSC_0 : (wdSC o a co ca cs v u)[1]? = some (a 0, .inl (cs 1, 80, .inl (gA u 0))) := rfl
theorem sSC_0 (i : Nat) (z : Int32) : (wdSC o a co ca cs v u).set 1 (a 0, .inl (cs 1, 80, .inl (upd (gA u 0) i z))) = wdSC o a co ca cs v (sA u 0 i z) := rfl
theorem eSC_1 : (wdSC o a co ca cs v u)[2]? = some (a 1, .inl (cs 0, 80, .inl (gA u 1))) := rfl
theorem sSC_1 (i : Nat) (z : Int32) : (wdSC o a co ca cs v u).set 2 (a 1, .inl (cs 0, 80, .inl (upd (gA u 1) i z))) = wdSC o a co ca cs v (sA u 1 i z) := rfl
theorem eSC_2 : (wdSC o a co ca cs v u)[3]? = some (a 2, .inl (cs 0, 80, .inl (gA u 2))) := rfl
theorem sSC_2 (i : Nat) (z : Int32) : (wdSC o a co ca cs v u).set 3 (a 2, .inl (cs 0, 80, .inl (upd (gA u 2) i z))) = wdSC o a co ca cs v (sA u 2 i z) := rfl
theorem eSC_3 : (wdSC o a co ca cs v u)[4]? = some (a 3, .inl (cs 0, 80, .inl (gA u 3))) := rfl
theorem sSC_3 (i : Nat) (z : Int32) : (wdSC o a co ca cs v u).set 4 (a 3, .inl (cs 0, 80, .inl (upd (gA u 3) i z))) = wdSC o a co ca cs v (sA u 3 i z) := rfl
theorem sSC_4 (z : Int32) : (wdSC o a co ca cs v u).set 0 (o, .inr (2, (fsS a u).set 4 (.int z))) = wdSC o a co ca cs v (sI u 4 z) := rfl
theorem sSC_5 (z : Int32) : (wdSC o a co ca cs v u).set 0 (o, .inr (2, (fsS a u).set 5 (.int z))) = wdSC o a co ca cs v (sI u 5 z) := rfl
theorem sSC_6 (z : Int32) : (wdSC o a co ca cs v u).set 0 (o, .inr (2, (fsS a u).set 6 (.int z))) = wdSC o a co ca cs v (sI u 6 z) := rfl
theorem sSC_7 (z : Int32) : (wdSC o a co ca cs v u).set 0 (o, .inr (2, (fsS a u).set 7 (.int z))) = wdSC o a co ca cs v (sI u 7 z) := rfl
theorem sSC_8 (z : Int32) : (wdSC o a co ca cs v u).set 0 (o, .inr (2, (fsS a u).set 8 (.int z))) = wdSC o a co ca cs v (sI u 8 z) := rfl
end
section
variable (ad to : Nat → Nat) (ta : Nat → Nat → Nat) (cs : Nat → ClassId) (c d s : MS) (t : Nat → MS)
theorem putT7 (j : Nat) (hj : j < 24) (z : Int32) : ∃ wr : va_W, (wdX ad to ta cs (c, d, s, t)).Perm ((to j, .inr (2, fsS (ta j) (t j))) :: wr) ∧ ((to j, (.inr (2, (fsS (ta j) (t j)).set 7 (.int z)) : va_E)) :: wr).Perm (wdX ad to ta cs (c, d, s, va_up t j (sI (t j) 7 z))) := by
  obtain ⟨wr, h1, h2⟩ := lensT ad to ta cs c d s t j hj
  refine ⟨(wdS (to j) (ta j) cs (t j)).drop 1 ++ wr, h1.trans List.perm_append_comm, List.Perm.trans ?_ (h2 (sI (t j) 7 z))⟩
  exact List.perm_append_comm (l₁ := wdS (to j) (ta j) cs (sI (t j) 7 z)) (l₂ := wr)
theorem mem_rowA (j : Nat) (hj : j < 24) : (ta j 3, (.inl (cs 0, 80, .inl (gA (t j) 3)) : va_E)) ∈ wdX ad to ta cs (c, d, s, t) :=
  List.mem_append_right _ (List.mem_flatMap.mpr ⟨j, List.mem_range.mpr hj, List.mem_of_getElem? (i := 4) rfl⟩)
end

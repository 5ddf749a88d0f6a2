abbrev y_D_isLetter : MethodName := ⟨"DeckFront", "isLetter", "(I)Z"⟩
abbrev b_D_isLetter : ByteArray := prog_1_method_13_code
abbrev w_D_isLetter : List Cond := (Jvm.Cond.code ({ cls := "DeckFront", name := "isLetter", desc := "(I)Z" } : Jvm.MethodName) prog_1_method_13_code (1 : Nat) (Option.some Jvm.ClassFile.FieldType.boolean)) :: wG
theorem d_D_isLetter_0 : decode b_D_isLetter 0 = .ok (.iload_n 0, 1) := by decide +kernel
theorem d_D_isLetter_1 : decode b_D_isLetter 1 = .ok (.bipush 65, 2) := by decide +kernel
theorem d_D_isLetter_3 : decode b_D_isLetter 3 = .ok (.if_icmp .lt 13, 3) := by decide +kernel
theorem d_D_isLetter_6 : decode b_D_isLetter 6 = .ok (.iload_n 0, 1) := by decide +kernel
theorem d_D_isLetter_7 : decode b_D_isLetter 7 = .ok (.bipush 90, 2) := by decide +kernel
theorem d_D_isLetter_9 : decode b_D_isLetter 9 = .ok (.if_icmp .gt 7, 3) := by decide +kernel
theorem d_D_isLetter_12 : decode b_D_isLetter 12 = .ok (.iconst 1, 1) := by decide +kernel
theorem d_D_isLetter_13 : decode b_D_isLetter 13 = .ok (.goto 4, 3) := by decide +kernel
theorem d_D_isLetter_16 : decode b_D_isLetter 16 = .ok (.iconst 0, 1) := by decide +kernel
theorem d_D_isLetter_17 : decode b_D_isLetter 17 = .ok (.ireturn, 1) := by decide +kernel
abbrev y_D_isDigit : MethodName := ⟨"DeckFront", "isDigit", "(I)Z"⟩
abbrev b_D_isDigit : ByteArray := prog_1_method_14_code
abbrev w_D_isDigit : List Cond := (Jvm.Cond.code ({ cls := "DeckFront", name := "isDigit", desc := "(I)Z" } : Jvm.MethodName) prog_1_method_14_code (1 : Nat) (Option.some Jvm.ClassFile.FieldType.boolean)) :: wG
theorem d_D_isDigit_0 : decode b_D_isDigit 0 = .ok (.iload_n 0, 1) := by decide +kernel
theorem d_D_isDigit_1 : decode b_D_isDigit 1 = .ok (.bipush 48, 2) := by decide +kernel
theorem d_D_isDigit_3 : decode b_D_isDigit 3 = .ok (.if_icmp .lt 13, 3) := by decide +kernel
theorem d_D_isDigit_6 : decode b_D_isDigit 6 = .ok (.iload_n 0, 1) := by decide +kernel
theorem d_D_isDigit_7 : decode b_D_isDigit 7 = .ok (.bipush 57, 2) := by decide +kernel
theorem d_D_isDigit_9 : decode b_D_isDigit 9 = .ok (.if_icmp .gt 7, 3) := by decide +kernel
theorem d_D_isDigit_12 : decode b_D_isDigit 12 = .ok (.iconst 1, 1) := by decide +kernel
theorem d_D_isDigit_13 : decode b_D_isDigit 13 = .ok (.goto 4, 3) := by decide +kernel
theorem d_D_isDigit_16 : decode b_D_isDigit 16 = .ok (.iconst 0, 1) := by decide +kernel
theorem d_D_isDigit_17 : decode b_D_isDigit 17 = .ok (.ireturn, 1) := by decide +kernel
abbrev y_D_nameOf : MethodName := ⟨"DeckFront", "nameOf", "(J)J"⟩
abbrev b_D_nameOf : ByteArray := prog_1_method_15_code
abbrev w_D_nameOf : List Cond := (Jvm.Cond.code ({ cls := "DeckFront", name := "nameOf", desc := "(J)J" } : Jvm.MethodName) prog_1_method_15_code (8 : Nat) (Option.some Jvm.ClassFile.FieldType.long)) :: wG
theorem d_D_nameOf_0 : decode b_D_nameOf 0 = .ok (.lconst 0, 1) := by decide +kernel
theorem d_D_nameOf_1 : decode b_D_nameOf 1 = .ok (.lstore_n 2, 1) := by decide +kernel
theorem d_D_nameOf_2 : decode b_D_nameOf 2 = .ok (.iconst 0, 1) := by decide +kernel
theorem d_D_nameOf_3 : decode b_D_nameOf 3 = .ok (.istore 4, 2) := by decide +kernel
theorem d_D_nameOf_5 : decode b_D_nameOf 5 = .ok (.bipush 56, 2) := by decide +kernel
theorem d_D_nameOf_7 : decode b_D_nameOf 7 = .ok (.istore 5, 2) := by decide +kernel
theorem d_D_nameOf_9 : decode b_D_nameOf 9 = .ok (.iload 5, 2) := by decide +kernel
theorem d_D_nameOf_11 : decode b_D_nameOf 11 = .ok (.ifCond .lt 82, 3) := by decide +kernel
theorem d_D_nameOf_14 : decode b_D_nameOf 14 = .ok (.lload_n 0, 1) := by decide +kernel
theorem d_D_nameOf_15 : decode b_D_nameOf 15 = .ok (.iload 5, 2) := by decide +kernel
theorem d_D_nameOf_17 : decode b_D_nameOf 17 = .ok (.lushr, 1) := by decide +kernel
theorem d_D_nameOf_18 : decode b_D_nameOf 18 = .ok (.l2i, 1) := by decide +kernel
theorem d_D_nameOf_19 : decode b_D_nameOf 19 = .ok (.sipush 255, 3) := by decide +kernel
theorem d_D_nameOf_22 : decode b_D_nameOf 22 = .ok (.iand, 1) := by decide +kernel
theorem d_D_nameOf_23 : decode b_D_nameOf 23 = .ok (.istore 6, 2) := by decide +kernel
theorem d_D_nameOf_25 : decode b_D_nameOf 25 = .ok (.iload 6, 2) := by decide +kernel
theorem d_D_nameOf_27 : decode b_D_nameOf 27 = .ok (.ifCond .ne 6, 3) := by decide +kernel
theorem d_D_nameOf_30 : decode b_D_nameOf 30 = .ok (.goto 57, 3) := by decide +kernel
theorem d_D_nameOf_33 : decode b_D_nameOf 33 = .ok (.iload 6, 2) := by decide +kernel
theorem d_D_nameOf_35 : decode b_D_nameOf 35 = .ok (.invokestatic 97, 3) := by decide +kernel
theorem d_D_nameOf_38 : decode b_D_nameOf 38 = .ok (.ifCond .ne 16, 3) := by decide +kernel
theorem d_D_nameOf_41 : decode b_D_nameOf 41 = .ok (.iload 4, 2) := by decide +kernel
theorem d_D_nameOf_43 : decode b_D_nameOf 43 = .ok (.ifCond .le 15, 3) := by decide +kernel
theorem d_D_nameOf_46 : decode b_D_nameOf 46 = .ok (.iload 6, 2) := by decide +kernel
theorem d_D_nameOf_48 : decode b_D_nameOf 48 = .ok (.invokestatic 101, 3) := by decide +kernel
theorem d_D_nameOf_51 : decode b_D_nameOf 51 = .ok (.ifCond .eq 7, 3) := by decide +kernel
theorem d_D_nameOf_54 : decode b_D_nameOf 54 = .ok (.iconst 1, 1) := by decide +kernel
theorem d_D_nameOf_55 : decode b_D_nameOf 55 = .ok (.goto 4, 3) := by decide +kernel
theorem d_D_nameOf_58 : decode b_D_nameOf 58 = .ok (.iconst 0, 1) := by decide +kernel
theorem d_D_nameOf_59 : decode b_D_nameOf 59 = .ok (.istore 7, 2) := by decide +kernel
theorem d_D_nameOf_61 : decode b_D_nameOf 61 = .ok (.iload 7, 2) := by decide +kernel
theorem d_D_nameOf_63 : decode b_D_nameOf 63 = .ok (.ifCond .eq 10, 3) := by decide +kernel
theorem d_D_nameOf_66 : decode b_D_nameOf 66 = .ok (.iload 4, 2) := by decide +kernel
theorem d_D_nameOf_68 : decode b_D_nameOf 68 = .ok (.bipush 6, 2) := by decide +kernel
theorem d_D_nameOf_70 : decode b_D_nameOf 70 = .ok (.if_icmp .ne 5, 3) := by decide +kernel
theorem d_D_nameOf_73 : decode b_D_nameOf 73 = .ok (.lconst 0, 1) := by decide +kernel
theorem d_D_nameOf_74 : decode b_D_nameOf 74 = .ok (.lreturn, 1) := by decide +kernel
theorem d_D_nameOf_75 : decode b_D_nameOf 75 = .ok (.lload_n 2, 1) := by decide +kernel
theorem d_D_nameOf_76 : decode b_D_nameOf 76 = .ok (.bipush 8, 2) := by decide +kernel
theorem d_D_nameOf_78 : decode b_D_nameOf 78 = .ok (.lshl, 1) := by decide +kernel
theorem d_D_nameOf_79 : decode b_D_nameOf 79 = .ok (.iload 6, 2) := by decide +kernel
theorem d_D_nameOf_81 : decode b_D_nameOf 81 = .ok (.i2l, 1) := by decide +kernel
theorem d_D_nameOf_82 : decode b_D_nameOf 82 = .ok (.lor, 1) := by decide +kernel
theorem d_D_nameOf_83 : decode b_D_nameOf 83 = .ok (.lstore_n 2, 1) := by decide +kernel
theorem d_D_nameOf_84 : decode b_D_nameOf 84 = .ok (.iinc 4 1, 3) := by decide +kernel
theorem d_D_nameOf_87 : decode b_D_nameOf 87 = .ok (.iinc 5 (-8), 3) := by decide +kernel
theorem d_D_nameOf_90 : decode b_D_nameOf 90 = .ok (.goto (-81), 3) := by decide +kernel
theorem d_D_nameOf_93 : decode b_D_nameOf 93 = .ok (.lload_n 2, 1) := by decide +kernel
theorem d_D_nameOf_94 : decode b_D_nameOf 94 = .ok (.lreturn, 1) := by decide +kernel
abbrev y_D_typeByLetter : MethodName := ⟨"DeckFront", "typeByLetter", "(J)I"⟩
abbrev b_D_typeByLetter : ByteArray := prog_1_method_16_code
abbrev w_D_typeByLetter : List Cond := (Jvm.Cond.code ({ cls := "DeckFront", name := "typeByLetter", desc := "(J)I" } : Jvm.MethodName) prog_1_method_16_code (5 : Nat) (Option.some Jvm.ClassFile.FieldType.int)) :: wG
theorem d_D_typeByLetter_0 : decode b_D_typeByLetter 0 = .ok (.lload_n 0, 1) := by decide +kernel
theorem d_D_typeByLetter_1 : decode b_D_typeByLetter 1 = .ok (.lstore_n 2, 1) := by decide +kernel
theorem d_D_typeByLetter_2 : decode b_D_typeByLetter 2 = .ok (.iconst 1, 1) := by decide +kernel
theorem d_D_typeByLetter_3 : decode b_D_typeByLetter 3 = .ok (.istore 4, 2) := by decide +kernel
theorem d_D_typeByLetter_5 : decode b_D_typeByLetter 5 = .ok (.iload 4, 2) := by decide +kernel
theorem d_D_typeByLetter_7 : decode b_D_typeByLetter 7 = .ok (.bipush 6, 2) := by decide +kernel
theorem d_D_typeByLetter_9 : decode b_D_typeByLetter 9 = .ok (.if_icmp .ge 22, 3) := by decide +kernel
theorem d_D_typeByLetter_12 : decode b_D_typeByLetter 12 = .ok (.lload_n 2, 1) := by decide +kernel
theorem d_D_typeByLetter_13 : decode b_D_typeByLetter 13 = .ok (.ldc2_w 104, 3) := by decide +kernel
theorem d_D_typeByLetter_16 : decode b_D_typeByLetter 16 = .ok (.lcmp, 1) := by decide +kernel
theorem d_D_typeByLetter_17 : decode b_D_typeByLetter 17 = .ok (.ifCond .le 14, 3) := by decide +kernel
theorem d_D_typeByLetter_20 : decode b_D_typeByLetter 20 = .ok (.lload_n 2, 1) := by decide +kernel
theorem d_D_typeByLetter_21 : decode b_D_typeByLetter 21 = .ok (.bipush 8, 2) := by decide +kernel
theorem d_D_typeByLetter_23 : decode b_D_typeByLetter 23 = .ok (.lushr, 1) := by decide +kernel
theorem d_D_typeByLetter_24 : decode b_D_typeByLetter 24 = .ok (.lstore_n 2, 1) := by decide +kernel
theorem d_D_typeByLetter_25 : decode b_D_typeByLetter 25 = .ok (.iinc 4 1, 3) := by decide +kernel
theorem d_D_typeByLetter_28 : decode b_D_typeByLetter 28 = .ok (.goto (-23), 3) := by decide +kernel
theorem d_D_typeByLetter_31 : decode b_D_typeByLetter 31 = .ok (.lload_n 2, 1) := by decide +kernel
theorem d_D_typeByLetter_32 : decode b_D_typeByLetter 32 = .ok (.ldc2_w 106, 3) := by decide +kernel
theorem d_D_typeByLetter_35 : decode b_D_typeByLetter 35 = .ok (.lcmp, 1) := by decide +kernel
theorem d_D_typeByLetter_36 : decode b_D_typeByLetter 36 = .ok (.ifCond .lt 15, 3) := by decide +kernel
theorem d_D_typeByLetter_39 : decode b_D_typeByLetter 39 = .ok (.lload_n 2, 1) := by decide +kernel
theorem d_D_typeByLetter_40 : decode b_D_typeByLetter 40 = .ok (.ldc2_w 108, 3) := by decide +kernel
theorem d_D_typeByLetter_43 : decode b_D_typeByLetter 43 = .ok (.lcmp, 1) := by decide +kernel
theorem d_D_typeByLetter_44 : decode b_D_typeByLetter 44 = .ok (.ifCond .gt 7, 3) := by decide +kernel
theorem d_D_typeByLetter_47 : decode b_D_typeByLetter 47 = .ok (.iconst 1, 1) := by decide +kernel
theorem d_D_typeByLetter_48 : decode b_D_typeByLetter 48 = .ok (.goto 4, 3) := by decide +kernel
theorem d_D_typeByLetter_51 : decode b_D_typeByLetter 51 = .ok (.iconst 2, 1) := by decide +kernel
theorem d_D_typeByLetter_52 : decode b_D_typeByLetter 52 = .ok (.ireturn, 1) := by decide +kernel
abbrev y_C_append : MethodName := ⟨"DeckFront$Card", "append", "(J)Z"⟩
abbrev b_C_append : ByteArray := prog_2_method_2_code
abbrev w_C_append : List Cond := (Jvm.Cond.code ({ cls := "DeckFront$Card", name := "append", desc := "(J)Z" } : Jvm.MethodName) prog_2_method_2_code (6 : Nat) (Option.some Jvm.ClassFile.FieldType.boolean)) :: wG
theorem d_C_append_0 : decode b_C_append 0 = .ok (.iconst 0, 1) := by decide +kernel
theorem d_C_append_1 : decode b_C_append 1 = .ok (.istore_n 3, 1) := by decide +kernel
theorem d_C_append_2 : decode b_C_append 2 = .ok (.bipush 56, 2) := by decide +kernel
theorem d_C_append_4 : decode b_C_append 4 = .ok (.istore 4, 2) := by decide +kernel
theorem d_C_append_6 : decode b_C_append 6 = .ok (.iload 4, 2) := by decide +kernel
theorem d_C_append_8 : decode b_C_append 8 = .ok (.ifCond .lt 48, 3) := by decide +kernel
theorem d_C_append_11 : decode b_C_append 11 = .ok (.lload_n 1, 1) := by decide +kernel
theorem d_C_append_12 : decode b_C_append 12 = .ok (.iload 4, 2) := by decide +kernel
theorem d_C_append_14 : decode b_C_append 14 = .ok (.lushr, 1) := by decide +kernel
theorem d_C_append_15 : decode b_C_append 15 = .ok (.l2i, 1) := by decide +kernel
theorem d_C_append_16 : decode b_C_append 16 = .ok (.sipush 255, 3) := by decide +kernel
theorem d_C_append_19 : decode b_C_append 19 = .ok (.iand, 1) := by decide +kernel
theorem d_C_append_20 : decode b_C_append 20 = .ok (.istore 5, 2) := by decide +kernel
theorem d_C_append_22 : decode b_C_append 22 = .ok (.iload 5, 2) := by decide +kernel
theorem d_C_append_24 : decode b_C_append 24 = .ok (.ifCond .eq 13, 3) := by decide +kernel
theorem d_C_append_27 : decode b_C_append 27 = .ok (.iload 5, 2) := by decide +kernel
theorem d_C_append_29 : decode b_C_append 29 = .ok (.invokestatic 15, 3) := by decide +kernel
theorem d_C_append_32 : decode b_C_append 32 = .ok (.ifCond .ne 5, 3) := by decide +kernel
theorem d_C_append_35 : decode b_C_append 35 = .ok (.iconst 0, 1) := by decide +kernel
theorem d_C_append_36 : decode b_C_append 36 = .ok (.ireturn, 1) := by decide +kernel
theorem d_C_append_37 : decode b_C_append 37 = .ok (.iload_n 3, 1) := by decide +kernel
theorem d_C_append_38 : decode b_C_append 38 = .ok (.iload 5, 2) := by decide +kernel
theorem d_C_append_40 : decode b_C_append 40 = .ok (.ifCond .ne 7, 3) := by decide +kernel
theorem d_C_append_43 : decode b_C_append 43 = .ok (.iconst 0, 1) := by decide +kernel
theorem d_C_append_44 : decode b_C_append 44 = .ok (.goto 4, 3) := by decide +kernel
theorem d_C_append_47 : decode b_C_append 47 = .ok (.iconst 1, 1) := by decide +kernel
theorem d_C_append_48 : decode b_C_append 48 = .ok (.iadd, 1) := by decide +kernel
theorem d_C_append_49 : decode b_C_append 49 = .ok (.istore_n 3, 1) := by decide +kernel
theorem d_C_append_50 : decode b_C_append 50 = .ok (.iinc 4 (-8), 3) := by decide +kernel
theorem d_C_append_53 : decode b_C_append 53 = .ok (.goto (-47), 3) := by decide +kernel
theorem d_C_append_56 : decode b_C_append 56 = .ok (.aload_n 0, 1) := by decide +kernel
theorem d_C_append_57 : decode b_C_append 57 = .ok (.getfield 19, 3) := by decide +kernel
theorem d_C_append_60 : decode b_C_append 60 = .ok (.iload_n 3, 1) := by decide +kernel
theorem d_C_append_61 : decode b_C_append 61 = .ok (.iadd, 1) := by decide +kernel
theorem d_C_append_62 : decode b_C_append 62 = .ok (.bipush 72, 2) := by decide +kernel
theorem d_C_append_64 : decode b_C_append 64 = .ok (.if_icmp .le 5, 3) := by decide +kernel
theorem d_C_append_67 : decode b_C_append 67 = .ok (.iconst 0, 1) := by decide +kernel
theorem d_C_append_68 : decode b_C_append 68 = .ok (.ireturn, 1) := by decide +kernel
theorem d_C_append_69 : decode b_C_append 69 = .ok (.bipush 56, 2) := by decide +kernel
theorem d_C_append_71 : decode b_C_append 71 = .ok (.istore 4, 2) := by decide +kernel
theorem d_C_append_73 : decode b_C_append 73 = .ok (.iload 4, 2) := by decide +kernel
theorem d_C_append_75 : decode b_C_append 75 = .ok (.ifCond .lt 47, 3) := by decide +kernel
theorem d_C_append_78 : decode b_C_append 78 = .ok (.lload_n 1, 1) := by decide +kernel
theorem d_C_append_79 : decode b_C_append 79 = .ok (.iload 4, 2) := by decide +kernel
theorem d_C_append_81 : decode b_C_append 81 = .ok (.lushr, 1) := by decide +kernel
theorem d_C_append_82 : decode b_C_append 82 = .ok (.l2i, 1) := by decide +kernel
theorem d_C_append_83 : decode b_C_append 83 = .ok (.sipush 255, 3) := by decide +kernel
theorem d_C_append_86 : decode b_C_append 86 = .ok (.iand, 1) := by decide +kernel
theorem d_C_append_87 : decode b_C_append 87 = .ok (.istore 5, 2) := by decide +kernel
theorem d_C_append_89 : decode b_C_append 89 = .ok (.iload 5, 2) := by decide +kernel
theorem d_C_append_91 : decode b_C_append 91 = .ok (.ifCond .eq 25, 3) := by decide +kernel
theorem d_C_append_94 : decode b_C_append 94 = .ok (.aload_n 0, 1) := by decide +kernel
theorem d_C_append_95 : decode b_C_append 95 = .ok (.getfield 9, 3) := by decide +kernel
theorem d_C_append_98 : decode b_C_append 98 = .ok (.aload_n 0, 1) := by decide +kernel
theorem d_C_append_99 : decode b_C_append 99 = .ok (.getfield 19, 3) := by decide +kernel
theorem d_C_append_102 : decode b_C_append 102 = .ok (.iload 5, 2) := by decide +kernel
theorem d_C_append_104 : decode b_C_append 104 = .ok (.i2c, 1) := by decide +kernel
theorem d_C_append_105 : decode b_C_append 105 = .ok (.castore, 1) := by decide +kernel
theorem d_C_append_106 : decode b_C_append 106 = .ok (.aload_n 0, 1) := by decide +kernel
theorem d_C_append_107 : decode b_C_append 107 = .ok (.dup, 1) := by decide +kernel
theorem d_C_append_108 : decode b_C_append 108 = .ok (.getfield 19, 3) := by decide +kernel
theorem d_C_append_111 : decode b_C_append 111 = .ok (.iconst 1, 1) := by decide +kernel
theorem d_C_append_112 : decode b_C_append 112 = .ok (.iadd, 1) := by decide +kernel
theorem d_C_append_113 : decode b_C_append 113 = .ok (.putfield 19, 3) := by decide +kernel
theorem d_C_append_116 : decode b_C_append 116 = .ok (.iinc 4 (-8), 3) := by decide +kernel
theorem d_C_append_119 : decode b_C_append 119 = .ok (.goto (-46), 3) := by decide +kernel
theorem d_C_append_122 : decode b_C_append 122 = .ok (.iconst 1, 1) := by decide +kernel
theorem d_C_append_123 : decode b_C_append 123 = .ok (.ireturn, 1) := by decide +kernel
abbrev y_C_isCardSign : MethodName := ⟨"DeckFront$Card", "isCardSign", "(I)Z"⟩
abbrev b_C_isCardSign : ByteArray := prog_2_method_3_code
abbrev w_C_isCardSign : List Cond := (Jvm.Cond.code ({ cls := "DeckFront$Card", name := "isCardSign", desc := "(I)Z" } : Jvm.MethodName) prog_2_method_3_code (1 : Nat) (Option.some Jvm.ClassFile.FieldType.boolean)) :: wG
theorem d_C_isCardSign_0 : decode b_C_isCardSign 0 = .ok (.iload_n 0, 1) := by decide +kernel
theorem d_C_isCardSign_1 : decode b_C_isCardSign 1 = .ok (.invokestatic 23, 3) := by decide +kernel
theorem d_C_isCardSign_4 : decode b_C_isCardSign 4 = .ok (.ifCond .ne 20, 3) := by decide +kernel
theorem d_C_isCardSign_7 : decode b_C_isCardSign 7 = .ok (.iload_n 0, 1) := by decide +kernel
theorem d_C_isCardSign_8 : decode b_C_isCardSign 8 = .ok (.invokestatic 26, 3) := by decide +kernel
theorem d_C_isCardSign_11 : decode b_C_isCardSign 11 = .ok (.ifCond .ne 13, 3) := by decide +kernel
theorem d_C_isCardSign_14 : decode b_C_isCardSign 14 = .ok (.ldc 29, 2) := by decide +kernel
theorem d_C_isCardSign_16 : decode b_C_isCardSign 16 = .ok (.iload_n 0, 1) := by decide +kernel
theorem d_C_isCardSign_17 : decode b_C_isCardSign 17 = .ok (.i2c, 1) := by decide +kernel
theorem d_C_isCardSign_18 : decode b_C_isCardSign 18 = .ok (.invokevirtual 31, 3) := by decide +kernel
theorem d_C_isCardSign_21 : decode b_C_isCardSign 21 = .ok (.ifCond .lt 7, 3) := by decide +kernel
theorem d_C_isCardSign_24 : decode b_C_isCardSign 24 = .ok (.iconst 1, 1) := by decide +kernel
theorem d_C_isCardSign_25 : decode b_C_isCardSign 25 = .ok (.goto 4, 3) := by decide +kernel
theorem d_C_isCardSign_28 : decode b_C_isCardSign 28 = .ok (.iconst 0, 1) := by decide +kernel
theorem d_C_isCardSign_29 : decode b_C_isCardSign 29 = .ok (.ireturn, 1) := by decide +kernel
abbrev y_C_isComment : MethodName := ⟨"DeckFront$Card", "isComment", "()Z"⟩
abbrev b_C_isComment : ByteArray := prog_2_method_4_code
abbrev w_C_isComment : List Cond := (Jvm.Cond.code ({ cls := "DeckFront$Card", name := "isComment", desc := "()Z" } : Jvm.MethodName) prog_2_method_4_code (1 : Nat) (Option.some Jvm.ClassFile.FieldType.boolean)) :: wG
theorem d_C_isComment_0 : decode b_C_isComment 0 = .ok (.aload_n 0, 1) := by decide +kernel
theorem d_C_isComment_1 : decode b_C_isComment 1 = .ok (.getfield 19, 3) := by decide +kernel
theorem d_C_isComment_4 : decode b_C_isComment 4 = .ok (.ifCond .le 25, 3) := by decide +kernel
theorem d_C_isComment_7 : decode b_C_isComment 7 = .ok (.aload_n 0, 1) := by decide +kernel
theorem d_C_isComment_8 : decode b_C_isComment 8 = .ok (.getfield 9, 3) := by decide +kernel
theorem d_C_isComment_11 : decode b_C_isComment 11 = .ok (.iconst 0, 1) := by decide +kernel
theorem d_C_isComment_12 : decode b_C_isComment 12 = .ok (.caload, 1) := by decide +kernel
theorem d_C_isComment_13 : decode b_C_isComment 13 = .ok (.bipush 67, 2) := by decide +kernel
theorem d_C_isComment_15 : decode b_C_isComment 15 = .ok (.if_icmp .eq 25, 3) := by decide +kernel
theorem d_C_isComment_18 : decode b_C_isComment 18 = .ok (.aload_n 0, 1) := by decide +kernel
theorem d_C_isComment_19 : decode b_C_isComment 19 = .ok (.getfield 9, 3) := by decide +kernel
theorem d_C_isComment_22 : decode b_C_isComment 22 = .ok (.iconst 0, 1) := by decide +kernel
theorem d_C_isComment_23 : decode b_C_isComment 23 = .ok (.caload, 1) := by decide +kernel
theorem d_C_isComment_24 : decode b_C_isComment 24 = .ok (.bipush 42, 2) := by decide +kernel
theorem d_C_isComment_26 : decode b_C_isComment 26 = .ok (.if_icmp .eq 14, 3) := by decide +kernel
theorem d_C_isComment_29 : decode b_C_isComment 29 = .ok (.aload_n 0, 1) := by decide +kernel
theorem d_C_isComment_30 : decode b_C_isComment 30 = .ok (.aload_n 0, 1) := by decide +kernel
theorem d_C_isComment_31 : decode b_C_isComment 31 = .ok (.getfield 19, 3) := by decide +kernel
theorem d_C_isComment_34 : decode b_C_isComment 34 = .ok (.invokevirtual 37, 3) := by decide +kernel
theorem d_C_isComment_37 : decode b_C_isComment 37 = .ok (.ifCond .eq 7, 3) := by decide +kernel
theorem d_C_isComment_40 : decode b_C_isComment 40 = .ok (.iconst 1, 1) := by decide +kernel
theorem d_C_isComment_41 : decode b_C_isComment 41 = .ok (.goto 4, 3) := by decide +kernel
theorem d_C_isComment_44 : decode b_C_isComment 44 = .ok (.iconst 0, 1) := by decide +kernel
theorem d_C_isComment_45 : decode b_C_isComment 45 = .ok (.ireturn, 1) := by decide +kernel
abbrev y_C_isBlankTo : MethodName := ⟨"DeckFront$Card", "isBlankTo", "(I)Z"⟩
abbrev b_C_isBlankTo : ByteArray := prog_2_method_5_code
abbrev w_C_isBlankTo : List Cond := (Jvm.Cond.code ({ cls := "DeckFront$Card", name := "isBlankTo", desc := "(I)Z" } : Jvm.MethodName) prog_2_method_5_code (3 : Nat) (Option.some Jvm.ClassFile.FieldType.boolean)) :: wG
theorem d_C_isBlankTo_0 : decode b_C_isBlankTo 0 = .ok (.iconst 0, 1) := by decide +kernel
theorem d_C_isBlankTo_1 : decode b_C_isBlankTo 1 = .ok (.istore_n 2, 1) := by decide +kernel
theorem d_C_isBlankTo_2 : decode b_C_isBlankTo 2 = .ok (.iload_n 2, 1) := by decide +kernel
theorem d_C_isBlankTo_3 : decode b_C_isBlankTo 3 = .ok (.iload_n 1, 1) := by decide +kernel
theorem d_C_isBlankTo_4 : decode b_C_isBlankTo 4 = .ok (.if_icmp .ge 30, 3) := by decide +kernel
theorem d_C_isBlankTo_7 : decode b_C_isBlankTo 7 = .ok (.iload_n 2, 1) := by decide +kernel
theorem d_C_isBlankTo_8 : decode b_C_isBlankTo 8 = .ok (.aload_n 0, 1) := by decide +kernel
theorem d_C_isBlankTo_9 : decode b_C_isBlankTo 9 = .ok (.getfield 19, 3) := by decide +kernel
theorem d_C_isBlankTo_12 : decode b_C_isBlankTo 12 = .ok (.if_icmp .ge 22, 3) := by decide +kernel
theorem d_C_isBlankTo_15 : decode b_C_isBlankTo 15 = .ok (.aload_n 0, 1) := by decide +kernel
theorem d_C_isBlankTo_16 : decode b_C_isBlankTo 16 = .ok (.getfield 9, 3) := by decide +kernel
theorem d_C_isBlankTo_19 : decode b_C_isBlankTo 19 = .ok (.iload_n 2, 1) := by decide +kernel
theorem d_C_isBlankTo_20 : decode b_C_isBlankTo 20 = .ok (.caload, 1) := by decide +kernel
theorem d_C_isBlankTo_21 : decode b_C_isBlankTo 21 = .ok (.bipush 32, 2) := by decide +kernel
theorem d_C_isBlankTo_23 : decode b_C_isBlankTo 23 = .ok (.if_icmp .eq 5, 3) := by decide +kernel
theorem d_C_isBlankTo_26 : decode b_C_isBlankTo 26 = .ok (.iconst 0, 1) := by decide +kernel
theorem d_C_isBlankTo_27 : decode b_C_isBlankTo 27 = .ok (.ireturn, 1) := by decide +kernel
theorem d_C_isBlankTo_28 : decode b_C_isBlankTo 28 = .ok (.iinc 2 1, 3) := by decide +kernel
theorem d_C_isBlankTo_31 : decode b_C_isBlankTo 31 = .ok (.goto (-29), 3) := by decide +kernel
theorem d_C_isBlankTo_34 : decode b_C_isBlankTo 34 = .ok (.iconst 1, 1) := by decide +kernel
theorem d_C_isBlankTo_35 : decode b_C_isBlankTo 35 = .ok (.ireturn, 1) := by decide +kernel
abbrev y_C_continuesOne : MethodName := ⟨"DeckFront$Card", "continuesOne", "()Z"⟩
abbrev b_C_continuesOne : ByteArray := prog_2_method_6_code
abbrev w_C_continuesOne : List Cond := (Jvm.Cond.code ({ cls := "DeckFront$Card", name := "continuesOne", desc := "()Z" } : Jvm.MethodName) prog_2_method_6_code (1 : Nat) (Option.some Jvm.ClassFile.FieldType.boolean)) :: wG
theorem d_C_continuesOne_0 : decode b_C_continuesOne 0 = .ok (.aload_n 0, 1) := by decide +kernel
theorem d_C_continuesOne_1 : decode b_C_continuesOne 1 = .ok (.getfield 19, 3) := by decide +kernel
theorem d_C_continuesOne_4 : decode b_C_continuesOne 4 = .ok (.iconst 5, 1) := by decide +kernel
theorem d_C_continuesOne_5 : decode b_C_continuesOne 5 = .ok (.if_icmp .le 29, 3) := by decide +kernel
theorem d_C_continuesOne_8 : decode b_C_continuesOne 8 = .ok (.aload_n 0, 1) := by decide +kernel
theorem d_C_continuesOne_9 : decode b_C_continuesOne 9 = .ok (.getfield 9, 3) := by decide +kernel
theorem d_C_continuesOne_12 : decode b_C_continuesOne 12 = .ok (.iconst 5, 1) := by decide +kernel
theorem d_C_continuesOne_13 : decode b_C_continuesOne 13 = .ok (.caload, 1) := by decide +kernel
theorem d_C_continuesOne_14 : decode b_C_continuesOne 14 = .ok (.bipush 32, 2) := by decide +kernel
theorem d_C_continuesOne_16 : decode b_C_continuesOne 16 = .ok (.if_icmp .eq 18, 3) := by decide +kernel
theorem d_C_continuesOne_19 : decode b_C_continuesOne 19 = .ok (.aload_n 0, 1) := by decide +kernel
theorem d_C_continuesOne_20 : decode b_C_continuesOne 20 = .ok (.getfield 9, 3) := by decide +kernel
theorem d_C_continuesOne_23 : decode b_C_continuesOne 23 = .ok (.iconst 5, 1) := by decide +kernel
theorem d_C_continuesOne_24 : decode b_C_continuesOne 24 = .ok (.caload, 1) := by decide +kernel
theorem d_C_continuesOne_25 : decode b_C_continuesOne 25 = .ok (.bipush 48, 2) := by decide +kernel
theorem d_C_continuesOne_27 : decode b_C_continuesOne 27 = .ok (.if_icmp .eq 7, 3) := by decide +kernel
theorem d_C_continuesOne_30 : decode b_C_continuesOne 30 = .ok (.iconst 1, 1) := by decide +kernel
theorem d_C_continuesOne_31 : decode b_C_continuesOne 31 = .ok (.goto 4, 3) := by decide +kernel
theorem d_C_continuesOne_34 : decode b_C_continuesOne 34 = .ok (.iconst 0, 1) := by decide +kernel
theorem d_C_continuesOne_35 : decode b_C_continuesOne 35 = .ok (.ireturn, 1) := by decide +kernel
abbrev y_C_hasGoodLabelField : MethodName := ⟨"DeckFront$Card", "hasGoodLabelField", "()Z"⟩
abbrev b_C_hasGoodLabelField : ByteArray := prog_2_method_7_code
abbrev w_C_hasGoodLabelField : List Cond := (Jvm.Cond.code ({ cls := "DeckFront$Card", name := "hasGoodLabelField", desc := "()Z" } : Jvm.MethodName) prog_2_method_7_code (2 : Nat) (Option.some Jvm.ClassFile.FieldType.boolean)) :: wG
theorem d_C_hasGoodLabelField_0 : decode b_C_hasGoodLabelField 0 = .ok (.aload_n 0, 1) := by decide +kernel
theorem d_C_hasGoodLabelField_1 : decode b_C_hasGoodLabelField 1 = .ok (.invokevirtual 40, 3) := by decide +kernel
theorem d_C_hasGoodLabelField_4 : decode b_C_hasGoodLabelField 4 = .ok (.ifCond .eq 9, 3) := by decide +kernel
theorem d_C_hasGoodLabelField_7 : decode b_C_hasGoodLabelField 7 = .ok (.aload_n 0, 1) := by decide +kernel
theorem d_C_hasGoodLabelField_8 : decode b_C_hasGoodLabelField 8 = .ok (.iconst 5, 1) := by decide +kernel
theorem d_C_hasGoodLabelField_9 : decode b_C_hasGoodLabelField 9 = .ok (.invokevirtual 37, 3) := by decide +kernel
theorem d_C_hasGoodLabelField_12 : decode b_C_hasGoodLabelField 12 = .ok (.ireturn, 1) := by decide +kernel
theorem d_C_hasGoodLabelField_13 : decode b_C_hasGoodLabelField 13 = .ok (.iconst 0, 1) := by decide +kernel
theorem d_C_hasGoodLabelField_14 : decode b_C_hasGoodLabelField 14 = .ok (.istore_n 1, 1) := by decide +kernel
theorem d_C_hasGoodLabelField_15 : decode b_C_hasGoodLabelField 15 = .ok (.iload_n 1, 1) := by decide +kernel
theorem d_C_hasGoodLabelField_16 : decode b_C_hasGoodLabelField 16 = .ok (.iconst 5, 1) := by decide +kernel
theorem d_C_hasGoodLabelField_17 : decode b_C_hasGoodLabelField 17 = .ok (.if_icmp .ge 42, 3) := by decide +kernel
theorem d_C_hasGoodLabelField_20 : decode b_C_hasGoodLabelField 20 = .ok (.iload_n 1, 1) := by decide +kernel
theorem d_C_hasGoodLabelField_21 : decode b_C_hasGoodLabelField 21 = .ok (.aload_n 0, 1) := by decide +kernel
theorem d_C_hasGoodLabelField_22 : decode b_C_hasGoodLabelField 22 = .ok (.getfield 19, 3) := by decide +kernel
theorem d_C_hasGoodLabelField_25 : decode b_C_hasGoodLabelField 25 = .ok (.if_icmp .ge 34, 3) := by decide +kernel
theorem d_C_hasGoodLabelField_28 : decode b_C_hasGoodLabelField 28 = .ok (.aload_n 0, 1) := by decide +kernel
theorem d_C_hasGoodLabelField_29 : decode b_C_hasGoodLabelField 29 = .ok (.getfield 9, 3) := by decide +kernel
theorem d_C_hasGoodLabelField_32 : decode b_C_hasGoodLabelField 32 = .ok (.iload_n 1, 1) := by decide +kernel
theorem d_C_hasGoodLabelField_33 : decode b_C_hasGoodLabelField 33 = .ok (.caload, 1) := by decide +kernel
theorem d_C_hasGoodLabelField_34 : decode b_C_hasGoodLabelField 34 = .ok (.bipush 32, 2) := by decide +kernel
theorem d_C_hasGoodLabelField_36 : decode b_C_hasGoodLabelField 36 = .ok (.if_icmp .eq 17, 3) := by decide +kernel
theorem d_C_hasGoodLabelField_39 : decode b_C_hasGoodLabelField 39 = .ok (.aload_n 0, 1) := by decide +kernel
theorem d_C_hasGoodLabelField_40 : decode b_C_hasGoodLabelField 40 = .ok (.getfield 9, 3) := by decide +kernel
theorem d_C_hasGoodLabelField_43 : decode b_C_hasGoodLabelField 43 = .ok (.iload_n 1, 1) := by decide +kernel
theorem d_C_hasGoodLabelField_44 : decode b_C_hasGoodLabelField 44 = .ok (.caload, 1) := by decide +kernel
theorem d_C_hasGoodLabelField_45 : decode b_C_hasGoodLabelField 45 = .ok (.invokestatic 26, 3) := by decide +kernel
theorem d_C_hasGoodLabelField_48 : decode b_C_hasGoodLabelField 48 = .ok (.ifCond .ne 5, 3) := by decide +kernel
theorem d_C_hasGoodLabelField_51 : decode b_C_hasGoodLabelField 51 = .ok (.iconst 0, 1) := by decide +kernel
theorem d_C_hasGoodLabelField_52 : decode b_C_hasGoodLabelField 52 = .ok (.ireturn, 1) := by decide +kernel
theorem d_C_hasGoodLabelField_53 : decode b_C_hasGoodLabelField 53 = .ok (.iinc 1 1, 3) := by decide +kernel
theorem d_C_hasGoodLabelField_56 : decode b_C_hasGoodLabelField 56 = .ok (.goto (-41), 3) := by decide +kernel
theorem d_C_hasGoodLabelField_59 : decode b_C_hasGoodLabelField 59 = .ok (.iconst 1, 1) := by decide +kernel
theorem d_C_hasGoodLabelField_60 : decode b_C_hasGoodLabelField 60 = .ok (.ireturn, 1) := by decide +kernel
abbrev y_C_numberInLabelField : MethodName := ⟨"DeckFront$Card", "numberInLabelField", "()I"⟩
abbrev b_C_numberInLabelField : ByteArray := prog_2_method_8_code
abbrev w_C_numberInLabelField : List Cond := (Jvm.Cond.code ({ cls := "DeckFront$Card", name := "numberInLabelField", desc := "()I" } : Jvm.MethodName) prog_2_method_8_code (3 : Nat) (Option.some Jvm.ClassFile.FieldType.int)) :: wG
theorem d_C_numberInLabelField_0 : decode b_C_numberInLabelField 0 = .ok (.iconst 0, 1) := by decide +kernel
theorem d_C_numberInLabelField_1 : decode b_C_numberInLabelField 1 = .ok (.istore_n 1, 1) := by decide +kernel
theorem d_C_numberInLabelField_2 : decode b_C_numberInLabelField 2 = .ok (.iconst 0, 1) := by decide +kernel
theorem d_C_numberInLabelField_3 : decode b_C_numberInLabelField 3 = .ok (.istore_n 2, 1) := by decide +kernel
theorem d_C_numberInLabelField_4 : decode b_C_numberInLabelField 4 = .ok (.iload_n 2, 1) := by decide +kernel
theorem d_C_numberInLabelField_5 : decode b_C_numberInLabelField 5 = .ok (.iconst 5, 1) := by decide +kernel
theorem d_C_numberInLabelField_6 : decode b_C_numberInLabelField 6 = .ok (.if_icmp .ge 44, 3) := by decide +kernel
theorem d_C_numberInLabelField_9 : decode b_C_numberInLabelField 9 = .ok (.iload_n 2, 1) := by decide +kernel
theorem d_C_numberInLabelField_10 : decode b_C_numberInLabelField 10 = .ok (.aload_n 0, 1) := by decide +kernel
theorem d_C_numberInLabelField_11 : decode b_C_numberInLabelField 11 = .ok (.getfield 19, 3) := by decide +kernel
theorem d_C_numberInLabelField_14 : decode b_C_numberInLabelField 14 = .ok (.if_icmp .ge 36, 3) := by decide +kernel
theorem d_C_numberInLabelField_17 : decode b_C_numberInLabelField 17 = .ok (.aload_n 0, 1) := by decide +kernel
theorem d_C_numberInLabelField_18 : decode b_C_numberInLabelField 18 = .ok (.getfield 9, 3) := by decide +kernel
theorem d_C_numberInLabelField_21 : decode b_C_numberInLabelField 21 = .ok (.iload_n 2, 1) := by decide +kernel
theorem d_C_numberInLabelField_22 : decode b_C_numberInLabelField 22 = .ok (.caload, 1) := by decide +kernel
theorem d_C_numberInLabelField_23 : decode b_C_numberInLabelField 23 = .ok (.invokestatic 26, 3) := by decide +kernel
theorem d_C_numberInLabelField_26 : decode b_C_numberInLabelField 26 = .ok (.ifCond .eq 18, 3) := by decide +kernel
theorem d_C_numberInLabelField_29 : decode b_C_numberInLabelField 29 = .ok (.iload_n 1, 1) := by decide +kernel
theorem d_C_numberInLabelField_30 : decode b_C_numberInLabelField 30 = .ok (.bipush 10, 2) := by decide +kernel
theorem d_C_numberInLabelField_32 : decode b_C_numberInLabelField 32 = .ok (.imul, 1) := by decide +kernel
theorem d_C_numberInLabelField_33 : decode b_C_numberInLabelField 33 = .ok (.aload_n 0, 1) := by decide +kernel
theorem d_C_numberInLabelField_34 : decode b_C_numberInLabelField 34 = .ok (.getfield 9, 3) := by decide +kernel
theorem d_C_numberInLabelField_37 : decode b_C_numberInLabelField 37 = .ok (.iload_n 2, 1) := by decide +kernel
theorem d_C_numberInLabelField_38 : decode b_C_numberInLabelField 38 = .ok (.caload, 1) := by decide +kernel
theorem d_C_numberInLabelField_39 : decode b_C_numberInLabelField 39 = .ok (.iadd, 1) := by decide +kernel
theorem d_C_numberInLabelField_40 : decode b_C_numberInLabelField 40 = .ok (.bipush 48, 2) := by decide +kernel
theorem d_C_numberInLabelField_42 : decode b_C_numberInLabelField 42 = .ok (.isub, 1) := by decide +kernel
theorem d_C_numberInLabelField_43 : decode b_C_numberInLabelField 43 = .ok (.istore_n 1, 1) := by decide +kernel
theorem d_C_numberInLabelField_44 : decode b_C_numberInLabelField 44 = .ok (.iinc 2 1, 3) := by decide +kernel
theorem d_C_numberInLabelField_47 : decode b_C_numberInLabelField 47 = .ok (.goto (-43), 3) := by decide +kernel
theorem d_C_numberInLabelField_50 : decode b_C_numberInLabelField 50 = .ok (.iload_n 1, 1) := by decide +kernel
theorem d_C_numberInLabelField_51 : decode b_C_numberInLabelField 51 = .ok (.ireturn, 1) := by decide +kernel
abbrev y_T_wipe : MethodName := ⟨"DeckFront$Tape", "wipe", "()V"⟩
abbrev b_T_wipe : ByteArray := prog_6_method_2_code
abbrev w_T_wipe : List Cond := (Jvm.Cond.code ({ cls := "DeckFront$Tape", name := "wipe", desc := "()V" } : Jvm.MethodName) prog_6_method_2_code (1 : Nat) (Option.none : Option Jvm.ClassFile.FieldType)) :: wG
theorem d_T_wipe_0 : decode b_T_wipe 0 = .ok (.aload_n 0, 1) := by decide +kernel
theorem d_T_wipe_1 : decode b_T_wipe 1 = .ok (.iconst 0, 1) := by decide +kernel
theorem d_T_wipe_2 : decode b_T_wipe 2 = .ok (.putfield 25, 3) := by decide +kernel
theorem d_T_wipe_5 : decode b_T_wipe 5 = .ok (.aload_n 0, 1) := by decide +kernel
theorem d_T_wipe_6 : decode b_T_wipe 6 = .ok (.iconst 0, 1) := by decide +kernel
theorem d_T_wipe_7 : decode b_T_wipe 7 = .ok (.putfield 29, 3) := by decide +kernel
theorem d_T_wipe_10 : decode b_T_wipe 10 = .ok (.aload_n 0, 1) := by decide +kernel
theorem d_T_wipe_11 : decode b_T_wipe 11 = .ok (.iconst 0, 1) := by decide +kernel
theorem d_T_wipe_12 : decode b_T_wipe 12 = .ok (.putfield 32, 3) := by decide +kernel
theorem d_T_wipe_15 : decode b_T_wipe 15 = .ok (.return_, 1) := by decide +kernel
abbrev y_T_append : MethodName := ⟨"DeckFront$Tape", "append", "(LDeckFront$Card;)Z"⟩
abbrev b_T_append : ByteArray := prog_6_method_3_code
abbrev w_T_append : List Cond := (Jvm.Cond.code ({ cls := "DeckFront$Tape", name := "append", desc := "(LDeckFront$Card;)Z" } : Jvm.MethodName) prog_6_method_3_code (6 : Nat) (Option.some Jvm.ClassFile.FieldType.boolean)) :: wG
theorem d_T_append_0 : decode b_T_append 0 = .ok (.aload_n 0, 1) := by decide +kernel
theorem d_T_append_1 : decode b_T_append 1 = .ok (.getfield 25, 3) := by decide +kernel
theorem d_T_append_4 : decode b_T_append 4 = .ok (.istore_n 2, 1) := by decide +kernel
theorem d_T_append_5 : decode b_T_append 5 = .ok (.aload_n 0, 1) := by decide +kernel
theorem d_T_append_6 : decode b_T_append 6 = .ok (.getfield 32, 3) := by decide +kernel
theorem d_T_append_9 : decode b_T_append 9 = .ok (.istore_n 3, 1) := by decide +kernel
theorem d_T_append_10 : decode b_T_append 10 = .ok (.bipush 6, 2) := by decide +kernel
theorem d_T_append_12 : decode b_T_append 12 = .ok (.istore 4, 2) := by decide +kernel
theorem d_T_append_14 : decode b_T_append 14 = .ok (.iload 4, 2) := by decide +kernel
theorem d_T_append_16 : decode b_T_append 16 = .ok (.aload_n 1, 1) := by decide +kernel
theorem d_T_append_17 : decode b_T_append 17 = .ok (.getfield 36, 3) := by decide +kernel
theorem d_T_append_20 : decode b_T_append 20 = .ok (.if_icmp .ge 100, 3) := by decide +kernel
theorem d_T_append_23 : decode b_T_append 23 = .ok (.aload_n 1, 1) := by decide +kernel
theorem d_T_append_24 : decode b_T_append 24 = .ok (.getfield 39, 3) := by decide +kernel
theorem d_T_append_27 : decode b_T_append 27 = .ok (.iload 4, 2) := by decide +kernel
theorem d_T_append_29 : decode b_T_append 29 = .ok (.caload, 1) := by decide +kernel
theorem d_T_append_30 : decode b_T_append 30 = .ok (.istore 5, 2) := by decide +kernel
theorem d_T_append_32 : decode b_T_append 32 = .ok (.iload 5, 2) := by decide +kernel
theorem d_T_append_34 : decode b_T_append 34 = .ok (.bipush 39, 2) := by decide +kernel
theorem d_T_append_36 : decode b_T_append 36 = .ok (.if_icmp .ne 19, 3) := by decide +kernel
theorem d_T_append_39 : decode b_T_append 39 = .ok (.aload_n 0, 1) := by decide +kernel
theorem d_T_append_40 : decode b_T_append 40 = .ok (.aload_n 0, 1) := by decide +kernel
theorem d_T_append_41 : decode b_T_append 41 = .ok (.getfield 32, 3) := by decide +kernel
theorem d_T_append_44 : decode b_T_append 44 = .ok (.ifCond .ne 7, 3) := by decide +kernel
theorem d_T_append_47 : decode b_T_append 47 = .ok (.iconst 1, 1) := by decide +kernel
theorem d_T_append_48 : decode b_T_append 48 = .ok (.goto 4, 3) := by decide +kernel
theorem d_T_append_51 : decode b_T_append 51 = .ok (.iconst 0, 1) := by decide +kernel
theorem d_T_append_52 : decode b_T_append 52 = .ok (.putfield 32, 3) := by decide +kernel
theorem d_T_append_55 : decode b_T_append 55 = .ok (.iload 5, 2) := by decide +kernel
theorem d_T_append_57 : decode b_T_append 57 = .ok (.bipush 32, 2) := by decide +kernel
theorem d_T_append_59 : decode b_T_append 59 = .ok (.if_icmp .ne 13, 3) := by decide +kernel
theorem d_T_append_62 : decode b_T_append 62 = .ok (.aload_n 0, 1) := by decide +kernel
theorem d_T_append_63 : decode b_T_append 63 = .ok (.getfield 32, 3) := by decide +kernel
theorem d_T_append_66 : decode b_T_append 66 = .ok (.ifCond .ne 6, 3) := by decide +kernel
theorem d_T_append_69 : decode b_T_append 69 = .ok (.goto 45, 3) := by decide +kernel
theorem d_T_append_72 : decode b_T_append 72 = .ok (.aload_n 0, 1) := by decide +kernel
theorem d_T_append_73 : decode b_T_append 73 = .ok (.getfield 25, 3) := by decide +kernel
theorem d_T_append_76 : decode b_T_append 76 = .ok (.bipush 80, 2) := by decide +kernel
theorem d_T_append_78 : decode b_T_append 78 = .ok (.if_icmp .lt 15, 3) := by decide +kernel
theorem d_T_append_81 : decode b_T_append 81 = .ok (.aload_n 0, 1) := by decide +kernel
theorem d_T_append_82 : decode b_T_append 82 = .ok (.iload_n 2, 1) := by decide +kernel
theorem d_T_append_83 : decode b_T_append 83 = .ok (.putfield 25, 3) := by decide +kernel
theorem d_T_append_86 : decode b_T_append 86 = .ok (.aload_n 0, 1) := by decide +kernel
theorem d_T_append_87 : decode b_T_append 87 = .ok (.iload_n 3, 1) := by decide +kernel
theorem d_T_append_88 : decode b_T_append 88 = .ok (.putfield 32, 3) := by decide +kernel
theorem d_T_append_91 : decode b_T_append 91 = .ok (.iconst 0, 1) := by decide +kernel
theorem d_T_append_92 : decode b_T_append 92 = .ok (.ireturn, 1) := by decide +kernel
theorem d_T_append_93 : decode b_T_append 93 = .ok (.aload_n 0, 1) := by decide +kernel
theorem d_T_append_94 : decode b_T_append 94 = .ok (.getfield 9, 3) := by decide +kernel
theorem d_T_append_97 : decode b_T_append 97 = .ok (.aload_n 0, 1) := by decide +kernel
theorem d_T_append_98 : decode b_T_append 98 = .ok (.getfield 25, 3) := by decide +kernel
theorem d_T_append_101 : decode b_T_append 101 = .ok (.iload 5, 2) := by decide +kernel
theorem d_T_append_103 : decode b_T_append 103 = .ok (.castore, 1) := by decide +kernel
theorem d_T_append_104 : decode b_T_append 104 = .ok (.aload_n 0, 1) := by decide +kernel
theorem d_T_append_105 : decode b_T_append 105 = .ok (.dup, 1) := by decide +kernel
theorem d_T_append_106 : decode b_T_append 106 = .ok (.getfield 25, 3) := by decide +kernel
theorem d_T_append_109 : decode b_T_append 109 = .ok (.iconst 1, 1) := by decide +kernel
theorem d_T_append_110 : decode b_T_append 110 = .ok (.iadd, 1) := by decide +kernel
theorem d_T_append_111 : decode b_T_append 111 = .ok (.putfield 25, 3) := by decide +kernel
theorem d_T_append_114 : decode b_T_append 114 = .ok (.iinc 4 1, 3) := by decide +kernel
theorem d_T_append_117 : decode b_T_append 117 = .ok (.goto (-103), 3) := by decide +kernel
theorem d_T_append_120 : decode b_T_append 120 = .ok (.iconst 1, 1) := by decide +kernel
theorem d_T_append_121 : decode b_T_append 121 = .ok (.ireturn, 1) := by decide +kernel
abbrev y_T_goBackTo : MethodName := ⟨"DeckFront$Tape", "goBackTo", "(I)V"⟩
abbrev b_T_goBackTo : ByteArray := prog_6_method_4_code
abbrev w_T_goBackTo : List Cond := (Jvm.Cond.code ({ cls := "DeckFront$Tape", name := "goBackTo", desc := "(I)V" } : Jvm.MethodName) prog_6_method_4_code (3 : Nat) (Option.none : Option Jvm.ClassFile.FieldType)) :: wG
theorem d_T_goBackTo_0 : decode b_T_goBackTo 0 = .ok (.iload_n 1, 1) := by decide +kernel
theorem d_T_goBackTo_1 : decode b_T_goBackTo 1 = .ok (.istore_n 2, 1) := by decide +kernel
theorem d_T_goBackTo_2 : decode b_T_goBackTo 2 = .ok (.iload_n 2, 1) := by decide +kernel
theorem d_T_goBackTo_3 : decode b_T_goBackTo 3 = .ok (.aload_n 0, 1) := by decide +kernel
theorem d_T_goBackTo_4 : decode b_T_goBackTo 4 = .ok (.getfield 29, 3) := by decide +kernel
theorem d_T_goBackTo_7 : decode b_T_goBackTo 7 = .ok (.if_icmp .ge 38, 3) := by decide +kernel
theorem d_T_goBackTo_10 : decode b_T_goBackTo 10 = .ok (.iload_n 2, 1) := by decide +kernel
theorem d_T_goBackTo_11 : decode b_T_goBackTo 11 = .ok (.aload_n 0, 1) := by decide +kernel
theorem d_T_goBackTo_12 : decode b_T_goBackTo 12 = .ok (.getfield 25, 3) := by decide +kernel
theorem d_T_goBackTo_15 : decode b_T_goBackTo 15 = .ok (.if_icmp .ge 30, 3) := by decide +kernel
theorem d_T_goBackTo_18 : decode b_T_goBackTo 18 = .ok (.aload_n 0, 1) := by decide +kernel
theorem d_T_goBackTo_19 : decode b_T_goBackTo 19 = .ok (.getfield 15, 3) := by decide +kernel
theorem d_T_goBackTo_22 : decode b_T_goBackTo 22 = .ok (.iload_n 2, 1) := by decide +kernel
theorem d_T_goBackTo_23 : decode b_T_goBackTo 23 = .ok (.iconst 0, 1) := by decide +kernel
theorem d_T_goBackTo_24 : decode b_T_goBackTo 24 = .ok (.iastore, 1) := by decide +kernel
theorem d_T_goBackTo_25 : decode b_T_goBackTo 25 = .ok (.aload_n 0, 1) := by decide +kernel
theorem d_T_goBackTo_26 : decode b_T_goBackTo 26 = .ok (.getfield 19, 3) := by decide +kernel
theorem d_T_goBackTo_29 : decode b_T_goBackTo 29 = .ok (.iload_n 2, 1) := by decide +kernel
theorem d_T_goBackTo_30 : decode b_T_goBackTo 30 = .ok (.iconst 0, 1) := by decide +kernel
theorem d_T_goBackTo_31 : decode b_T_goBackTo 31 = .ok (.iastore, 1) := by decide +kernel
theorem d_T_goBackTo_32 : decode b_T_goBackTo 32 = .ok (.aload_n 0, 1) := by decide +kernel
theorem d_T_goBackTo_33 : decode b_T_goBackTo 33 = .ok (.getfield 22, 3) := by decide +kernel
theorem d_T_goBackTo_36 : decode b_T_goBackTo 36 = .ok (.iload_n 2, 1) := by decide +kernel
theorem d_T_goBackTo_37 : decode b_T_goBackTo 37 = .ok (.iconst 0, 1) := by decide +kernel
theorem d_T_goBackTo_38 : decode b_T_goBackTo 38 = .ok (.iastore, 1) := by decide +kernel
theorem d_T_goBackTo_39 : decode b_T_goBackTo 39 = .ok (.iinc 2 1, 3) := by decide +kernel
theorem d_T_goBackTo_42 : decode b_T_goBackTo 42 = .ok (.goto (-40), 3) := by decide +kernel
theorem d_T_goBackTo_45 : decode b_T_goBackTo 45 = .ok (.aload_n 0, 1) := by decide +kernel
theorem d_T_goBackTo_46 : decode b_T_goBackTo 46 = .ok (.iload_n 1, 1) := by decide +kernel
theorem d_T_goBackTo_47 : decode b_T_goBackTo 47 = .ok (.putfield 29, 3) := by decide +kernel
theorem d_T_goBackTo_50 : decode b_T_goBackTo 50 = .ok (.return_, 1) := by decide +kernel
abbrev y_T_isNext : MethodName := ⟨"DeckFront$Tape", "isNext", "(C)Z"⟩
abbrev b_T_isNext : ByteArray := prog_6_method_5_code
abbrev w_T_isNext : List Cond := (Jvm.Cond.code ({ cls := "DeckFront$Tape", name := "isNext", desc := "(C)Z" } : Jvm.MethodName) prog_6_method_5_code (2 : Nat) (Option.some Jvm.ClassFile.FieldType.boolean)) :: wG
theorem d_T_isNext_0 : decode b_T_isNext 0 = .ok (.aload_n 0, 1) := by decide +kernel
theorem d_T_isNext_1 : decode b_T_isNext 1 = .ok (.getfield 29, 3) := by decide +kernel
theorem d_T_isNext_4 : decode b_T_isNext 4 = .ok (.aload_n 0, 1) := by decide +kernel
theorem d_T_isNext_5 : decode b_T_isNext 5 = .ok (.getfield 25, 3) := by decide +kernel
theorem d_T_isNext_8 : decode b_T_isNext 8 = .ok (.if_icmp .ge 20, 3) := by decide +kernel
theorem d_T_isNext_11 : decode b_T_isNext 11 = .ok (.aload_n 0, 1) := by decide +kernel
theorem d_T_isNext_12 : decode b_T_isNext 12 = .ok (.getfield 9, 3) := by decide +kernel
theorem d_T_isNext_15 : decode b_T_isNext 15 = .ok (.aload_n 0, 1) := by decide +kernel
theorem d_T_isNext_16 : decode b_T_isNext 16 = .ok (.getfield 29, 3) := by decide +kernel
theorem d_T_isNext_19 : decode b_T_isNext 19 = .ok (.caload, 1) := by decide +kernel
theorem d_T_isNext_20 : decode b_T_isNext 20 = .ok (.iload_n 1, 1) := by decide +kernel
theorem d_T_isNext_21 : decode b_T_isNext 21 = .ok (.if_icmp .ne 7, 3) := by decide +kernel
theorem d_T_isNext_24 : decode b_T_isNext 24 = .ok (.iconst 1, 1) := by decide +kernel
theorem d_T_isNext_25 : decode b_T_isNext 25 = .ok (.goto 4, 3) := by decide +kernel
theorem d_T_isNext_28 : decode b_T_isNext 28 = .ok (.iconst 0, 1) := by decide +kernel
theorem d_T_isNext_29 : decode b_T_isNext 29 = .ok (.ireturn, 1) := by decide +kernel
abbrev y_T_stands : MethodName := ⟨"DeckFront$Tape", "stands", "(ILjava/lang/String;)Z"⟩
abbrev b_T_stands : ByteArray := prog_6_method_6_code
abbrev w_T_stands : List Cond := (Jvm.Cond.code ({ cls := "DeckFront$Tape", name := "stands", desc := "(ILjava/lang/String;)Z" } : Jvm.MethodName) prog_6_method_6_code (4 : Nat) (Option.some Jvm.ClassFile.FieldType.boolean)) :: wG
theorem d_T_stands_0 : decode b_T_stands 0 = .ok (.iload_n 1, 1) := by decide +kernel
theorem d_T_stands_1 : decode b_T_stands 1 = .ok (.aload_n 2, 1) := by decide +kernel
theorem d_T_stands_2 : decode b_T_stands 2 = .ok (.invokevirtual 42, 3) := by decide +kernel
theorem d_T_stands_5 : decode b_T_stands 5 = .ok (.iadd, 1) := by decide +kernel
theorem d_T_stands_6 : decode b_T_stands 6 = .ok (.aload_n 0, 1) := by decide +kernel
theorem d_T_stands_7 : decode b_T_stands 7 = .ok (.getfield 25, 3) := by decide +kernel
theorem d_T_stands_10 : decode b_T_stands 10 = .ok (.if_icmp .le 5, 3) := by decide +kernel
theorem d_T_stands_13 : decode b_T_stands 13 = .ok (.iconst 0, 1) := by decide +kernel
theorem d_T_stands_14 : decode b_T_stands 14 = .ok (.ireturn, 1) := by decide +kernel
theorem d_T_stands_15 : decode b_T_stands 15 = .ok (.iconst 0, 1) := by decide +kernel
theorem d_T_stands_16 : decode b_T_stands 16 = .ok (.istore_n 3, 1) := by decide +kernel
theorem d_T_stands_17 : decode b_T_stands 17 = .ok (.iload_n 3, 1) := by decide +kernel
theorem d_T_stands_18 : decode b_T_stands 18 = .ok (.aload_n 2, 1) := by decide +kernel
theorem d_T_stands_19 : decode b_T_stands 19 = .ok (.invokevirtual 42, 3) := by decide +kernel
theorem d_T_stands_22 : decode b_T_stands 22 = .ok (.if_icmp .ge 27, 3) := by decide +kernel
theorem d_T_stands_25 : decode b_T_stands 25 = .ok (.aload_n 0, 1) := by decide +kernel
theorem d_T_stands_26 : decode b_T_stands 26 = .ok (.getfield 9, 3) := by decide +kernel
theorem d_T_stands_29 : decode b_T_stands 29 = .ok (.iload_n 1, 1) := by decide +kernel
theorem d_T_stands_30 : decode b_T_stands 30 = .ok (.iload_n 3, 1) := by decide +kernel
theorem d_T_stands_31 : decode b_T_stands 31 = .ok (.iadd, 1) := by decide +kernel
theorem d_T_stands_32 : decode b_T_stands 32 = .ok (.caload, 1) := by decide +kernel
theorem d_T_stands_33 : decode b_T_stands 33 = .ok (.aload_n 2, 1) := by decide +kernel
theorem d_T_stands_34 : decode b_T_stands 34 = .ok (.iload_n 3, 1) := by decide +kernel
theorem d_T_stands_35 : decode b_T_stands 35 = .ok (.invokevirtual 47, 3) := by decide +kernel
theorem d_T_stands_38 : decode b_T_stands 38 = .ok (.if_icmp .eq 5, 3) := by decide +kernel
theorem d_T_stands_41 : decode b_T_stands 41 = .ok (.iconst 0, 1) := by decide +kernel
theorem d_T_stands_42 : decode b_T_stands 42 = .ok (.ireturn, 1) := by decide +kernel
theorem d_T_stands_43 : decode b_T_stands 43 = .ok (.iinc 3 1, 3) := by decide +kernel
theorem d_T_stands_46 : decode b_T_stands 46 = .ok (.goto (-29), 3) := by decide +kernel
theorem d_T_stands_49 : decode b_T_stands 49 = .ok (.iconst 1, 1) := by decide +kernel
theorem d_T_stands_50 : decode b_T_stands 50 = .ok (.ireturn, 1) := by decide +kernel
abbrev y_T_take : MethodName := ⟨"DeckFront$Tape", "take", "(Ljava/lang/String;)Z"⟩
abbrev b_T_take : ByteArray := prog_6_method_7_code
abbrev w_T_take : List Cond := (Jvm.Cond.code ({ cls := "DeckFront$Tape", name := "take", desc := "(Ljava/lang/String;)Z" } : Jvm.MethodName) prog_6_method_7_code (2 : Nat) (Option.some Jvm.ClassFile.FieldType.boolean)) :: wG
theorem d_T_take_0 : decode b_T_take 0 = .ok (.aload_n 0, 1) := by decide +kernel
theorem d_T_take_1 : decode b_T_take 1 = .ok (.aload_n 0, 1) := by decide +kernel
theorem d_T_take_2 : decode b_T_take 2 = .ok (.getfield 29, 3) := by decide +kernel
theorem d_T_take_5 : decode b_T_take 5 = .ok (.aload_n 1, 1) := by decide +kernel
theorem d_T_take_6 : decode b_T_take 6 = .ok (.invokevirtual 51, 3) := by decide +kernel
theorem d_T_take_9 : decode b_T_take 9 = .ok (.ifCond .ne 5, 3) := by decide +kernel
theorem d_T_take_12 : decode b_T_take 12 = .ok (.iconst 0, 1) := by decide +kernel
theorem d_T_take_13 : decode b_T_take 13 = .ok (.ireturn, 1) := by decide +kernel
theorem d_T_take_14 : decode b_T_take 14 = .ok (.aload_n 0, 1) := by decide +kernel
theorem d_T_take_15 : decode b_T_take 15 = .ok (.dup, 1) := by decide +kernel
theorem d_T_take_16 : decode b_T_take 16 = .ok (.getfield 29, 3) := by decide +kernel
theorem d_T_take_19 : decode b_T_take 19 = .ok (.aload_n 1, 1) := by decide +kernel
theorem d_T_take_20 : decode b_T_take 20 = .ok (.invokevirtual 42, 3) := by decide +kernel
theorem d_T_take_23 : decode b_T_take 23 = .ok (.iadd, 1) := by decide +kernel
theorem d_T_take_24 : decode b_T_take 24 = .ok (.putfield 29, 3) := by decide +kernel
theorem d_T_take_27 : decode b_T_take 27 = .ok (.iconst 1, 1) := by decide +kernel
theorem d_T_take_28 : decode b_T_take 28 = .ok (.ireturn, 1) := by decide +kernel
abbrev y_T_takeIdleComma : MethodName := ⟨"DeckFront$Tape", "takeIdleComma", "()Z"⟩
abbrev b_T_takeIdleComma : ByteArray := prog_6_method_8_code
abbrev w_T_takeIdleComma : List Cond := (Jvm.Cond.code ({ cls := "DeckFront$Tape", name := "takeIdleComma", desc := "()Z" } : Jvm.MethodName) prog_6_method_8_code (1 : Nat) (Option.some Jvm.ClassFile.FieldType.boolean)) :: wG
theorem d_T_takeIdleComma_0 : decode b_T_takeIdleComma 0 = .ok (.aload_n 0, 1) := by decide +kernel
theorem d_T_takeIdleComma_1 : decode b_T_takeIdleComma 1 = .ok (.bipush 44, 2) := by decide +kernel
theorem d_T_takeIdleComma_3 : decode b_T_takeIdleComma 3 = .ok (.invokevirtual 55, 3) := by decide +kernel
theorem d_T_takeIdleComma_6 : decode b_T_takeIdleComma 6 = .ok (.ifCond .eq 23, 3) := by decide +kernel
theorem d_T_takeIdleComma_9 : decode b_T_takeIdleComma 9 = .ok (.aload_n 0, 1) := by decide +kernel
theorem d_T_takeIdleComma_10 : decode b_T_takeIdleComma 10 = .ok (.getfield 22, 3) := by decide +kernel
theorem d_T_takeIdleComma_13 : decode b_T_takeIdleComma 13 = .ok (.aload_n 0, 1) := by decide +kernel
theorem d_T_takeIdleComma_14 : decode b_T_takeIdleComma 14 = .ok (.getfield 29, 3) := by decide +kernel
theorem d_T_takeIdleComma_17 : decode b_T_takeIdleComma 17 = .ok (.iconst 5, 1) := by decide +kernel
theorem d_T_takeIdleComma_18 : decode b_T_takeIdleComma 18 = .ok (.iastore, 1) := by decide +kernel
theorem d_T_takeIdleComma_19 : decode b_T_takeIdleComma 19 = .ok (.aload_n 0, 1) := by decide +kernel
theorem d_T_takeIdleComma_20 : decode b_T_takeIdleComma 20 = .ok (.dup, 1) := by decide +kernel
theorem d_T_takeIdleComma_21 : decode b_T_takeIdleComma 21 = .ok (.getfield 29, 3) := by decide +kernel
theorem d_T_takeIdleComma_24 : decode b_T_takeIdleComma 24 = .ok (.iconst 1, 1) := by decide +kernel
theorem d_T_takeIdleComma_25 : decode b_T_takeIdleComma 25 = .ok (.iadd, 1) := by decide +kernel
theorem d_T_takeIdleComma_26 : decode b_T_takeIdleComma 26 = .ok (.putfield 29, 3) := by decide +kernel
theorem d_T_takeIdleComma_29 : decode b_T_takeIdleComma 29 = .ok (.iconst 1, 1) := by decide +kernel
theorem d_T_takeIdleComma_30 : decode b_T_takeIdleComma 30 = .ok (.ireturn, 1) := by decide +kernel
abbrev y_T_takeDigits : MethodName := ⟨"DeckFront$Tape", "takeDigits", "(II)Z"⟩
abbrev b_T_takeDigits : ByteArray := prog_6_method_9_code
abbrev w_T_takeDigits : List Cond := (Jvm.Cond.code ({ cls := "DeckFront$Tape", name := "takeDigits", desc := "(II)Z" } : Jvm.MethodName) prog_6_method_9_code (5 : Nat) (Option.some Jvm.ClassFile.FieldType.boolean)) :: wG
theorem d_T_takeDigits_0 : decode b_T_takeDigits 0 = .ok (.aload_n 0, 1) := by decide +kernel
theorem d_T_takeDigits_1 : decode b_T_takeDigits 1 = .ok (.getfield 29, 3) := by decide +kernel
theorem d_T_takeDigits_4 : decode b_T_takeDigits 4 = .ok (.istore_n 3, 1) := by decide +kernel
theorem d_T_takeDigits_5 : decode b_T_takeDigits 5 = .ok (.iconst 0, 1) := by decide +kernel
theorem d_T_takeDigits_6 : decode b_T_takeDigits 6 = .ok (.istore 4, 2) := by decide +kernel
theorem d_T_takeDigits_8 : decode b_T_takeDigits 8 = .ok (.iload 4, 2) := by decide +kernel
theorem d_T_takeDigits_10 : decode b_T_takeDigits 10 = .ok (.iload_n 1, 1) := by decide +kernel
theorem d_T_takeDigits_11 : decode b_T_takeDigits 11 = .ok (.if_icmp .ge 45, 3) := by decide +kernel
theorem d_T_takeDigits_14 : decode b_T_takeDigits 14 = .ok (.aload_n 0, 1) := by decide +kernel
theorem d_T_takeDigits_15 : decode b_T_takeDigits 15 = .ok (.getfield 29, 3) := by decide +kernel
theorem d_T_takeDigits_18 : decode b_T_takeDigits 18 = .ok (.aload_n 0, 1) := by decide +kernel
theorem d_T_takeDigits_19 : decode b_T_takeDigits 19 = .ok (.getfield 25, 3) := by decide +kernel
theorem d_T_takeDigits_22 : decode b_T_takeDigits 22 = .ok (.if_icmp .ge 34, 3) := by decide +kernel
theorem d_T_takeDigits_25 : decode b_T_takeDigits 25 = .ok (.aload_n 0, 1) := by decide +kernel
theorem d_T_takeDigits_26 : decode b_T_takeDigits 26 = .ok (.getfield 9, 3) := by decide +kernel
theorem d_T_takeDigits_29 : decode b_T_takeDigits 29 = .ok (.aload_n 0, 1) := by decide +kernel
theorem d_T_takeDigits_30 : decode b_T_takeDigits 30 = .ok (.getfield 29, 3) := by decide +kernel
theorem d_T_takeDigits_33 : decode b_T_takeDigits 33 = .ok (.caload, 1) := by decide +kernel
theorem d_T_takeDigits_34 : decode b_T_takeDigits 34 = .ok (.invokestatic 59, 3) := by decide +kernel
theorem d_T_takeDigits_37 : decode b_T_takeDigits 37 = .ok (.ifCond .eq 19, 3) := by decide +kernel
theorem d_T_takeDigits_40 : decode b_T_takeDigits 40 = .ok (.aload_n 0, 1) := by decide +kernel
theorem d_T_takeDigits_41 : decode b_T_takeDigits 41 = .ok (.dup, 1) := by decide +kernel
theorem d_T_takeDigits_42 : decode b_T_takeDigits 42 = .ok (.getfield 29, 3) := by decide +kernel
theorem d_T_takeDigits_45 : decode b_T_takeDigits 45 = .ok (.iconst 1, 1) := by decide +kernel
theorem d_T_takeDigits_46 : decode b_T_takeDigits 46 = .ok (.iadd, 1) := by decide +kernel
theorem d_T_takeDigits_47 : decode b_T_takeDigits 47 = .ok (.putfield 29, 3) := by decide +kernel
theorem d_T_takeDigits_50 : decode b_T_takeDigits 50 = .ok (.iinc 4 1, 3) := by decide +kernel
theorem d_T_takeDigits_53 : decode b_T_takeDigits 53 = .ok (.goto (-45), 3) := by decide +kernel
theorem d_T_takeDigits_56 : decode b_T_takeDigits 56 = .ok (.aload_n 0, 1) := by decide +kernel
theorem d_T_takeDigits_57 : decode b_T_takeDigits 57 = .ok (.getfield 29, 3) := by decide +kernel
theorem d_T_takeDigits_60 : decode b_T_takeDigits 60 = .ok (.iload_n 3, 1) := by decide +kernel
theorem d_T_takeDigits_61 : decode b_T_takeDigits 61 = .ok (.if_icmp .ne 5, 3) := by decide +kernel
theorem d_T_takeDigits_64 : decode b_T_takeDigits 64 = .ok (.iconst 0, 1) := by decide +kernel
theorem d_T_takeDigits_65 : decode b_T_takeDigits 65 = .ok (.ireturn, 1) := by decide +kernel
theorem d_T_takeDigits_66 : decode b_T_takeDigits 66 = .ok (.iload_n 3, 1) := by decide +kernel
theorem d_T_takeDigits_67 : decode b_T_takeDigits 67 = .ok (.aload_n 0, 1) := by decide +kernel
theorem d_T_takeDigits_68 : decode b_T_takeDigits 68 = .ok (.getfield 29, 3) := by decide +kernel
theorem d_T_takeDigits_71 : decode b_T_takeDigits 71 = .ok (.iconst 1, 1) := by decide +kernel
theorem d_T_takeDigits_72 : decode b_T_takeDigits 72 = .ok (.isub, 1) := by decide +kernel
theorem d_T_takeDigits_73 : decode b_T_takeDigits 73 = .ok (.if_icmp .ge 27, 3) := by decide +kernel
theorem d_T_takeDigits_76 : decode b_T_takeDigits 76 = .ok (.aload_n 0, 1) := by decide +kernel
theorem d_T_takeDigits_77 : decode b_T_takeDigits 77 = .ok (.getfield 9, 3) := by decide +kernel
theorem d_T_takeDigits_80 : decode b_T_takeDigits 80 = .ok (.iload_n 3, 1) := by decide +kernel
theorem d_T_takeDigits_81 : decode b_T_takeDigits 81 = .ok (.caload, 1) := by decide +kernel
theorem d_T_takeDigits_82 : decode b_T_takeDigits 82 = .ok (.bipush 48, 2) := by decide +kernel
theorem d_T_takeDigits_84 : decode b_T_takeDigits 84 = .ok (.if_icmp .ne 16, 3) := by decide +kernel
theorem d_T_takeDigits_87 : decode b_T_takeDigits 87 = .ok (.aload_n 0, 1) := by decide +kernel
theorem d_T_takeDigits_88 : decode b_T_takeDigits 88 = .ok (.getfield 22, 3) := by decide +kernel
theorem d_T_takeDigits_91 : decode b_T_takeDigits 91 = .ok (.iload_n 3, 1) := by decide +kernel
theorem d_T_takeDigits_92 : decode b_T_takeDigits 92 = .ok (.iconst 5, 1) := by decide +kernel
theorem d_T_takeDigits_93 : decode b_T_takeDigits 93 = .ok (.iastore, 1) := by decide +kernel
theorem d_T_takeDigits_94 : decode b_T_takeDigits 94 = .ok (.iinc 3 1, 3) := by decide +kernel
theorem d_T_takeDigits_97 : decode b_T_takeDigits 97 = .ok (.goto (-31), 3) := by decide +kernel
theorem d_T_takeDigits_100 : decode b_T_takeDigits 100 = .ok (.aload_n 0, 1) := by decide +kernel
theorem d_T_takeDigits_101 : decode b_T_takeDigits 101 = .ok (.getfield 22, 3) := by decide +kernel
theorem d_T_takeDigits_104 : decode b_T_takeDigits 104 = .ok (.iload_n 3, 1) := by decide +kernel
theorem d_T_takeDigits_105 : decode b_T_takeDigits 105 = .ok (.iload_n 2, 1) := by decide +kernel
theorem d_T_takeDigits_106 : decode b_T_takeDigits 106 = .ok (.iastore, 1) := by decide +kernel
theorem d_T_takeDigits_107 : decode b_T_takeDigits 107 = .ok (.iconst 1, 1) := by decide +kernel
theorem d_T_takeDigits_108 : decode b_T_takeDigits 108 = .ok (.ireturn, 1) := by decide +kernel
abbrev y_T_takeName : MethodName := ⟨"DeckFront$Tape", "takeName", "(I)Z"⟩
abbrev b_T_takeName : ByteArray := prog_6_method_10_code
abbrev w_T_takeName : List Cond := (Jvm.Cond.code ({ cls := "DeckFront$Tape", name := "takeName", desc := "(I)Z" } : Jvm.MethodName) prog_6_method_10_code (4 : Nat) (Option.some Jvm.ClassFile.FieldType.boolean)) :: wG
theorem d_T_takeName_0 : decode b_T_takeName 0 = .ok (.aload_n 0, 1) := by decide +kernel
theorem d_T_takeName_1 : decode b_T_takeName 1 = .ok (.getfield 29, 3) := by decide +kernel
theorem d_T_takeName_4 : decode b_T_takeName 4 = .ok (.istore_n 2, 1) := by decide +kernel
theorem d_T_takeName_5 : decode b_T_takeName 5 = .ok (.aload_n 0, 1) := by decide +kernel
theorem d_T_takeName_6 : decode b_T_takeName 6 = .ok (.getfield 29, 3) := by decide +kernel
theorem d_T_takeName_9 : decode b_T_takeName 9 = .ok (.aload_n 0, 1) := by decide +kernel
theorem d_T_takeName_10 : decode b_T_takeName 10 = .ok (.getfield 25, 3) := by decide +kernel
theorem d_T_takeName_13 : decode b_T_takeName 13 = .ok (.if_icmp .ge 18, 3) := by decide +kernel
theorem d_T_takeName_16 : decode b_T_takeName 16 = .ok (.aload_n 0, 1) := by decide +kernel
theorem d_T_takeName_17 : decode b_T_takeName 17 = .ok (.getfield 9, 3) := by decide +kernel
theorem d_T_takeName_20 : decode b_T_takeName 20 = .ok (.aload_n 0, 1) := by decide +kernel
theorem d_T_takeName_21 : decode b_T_takeName 21 = .ok (.getfield 29, 3) := by decide +kernel
theorem d_T_takeName_24 : decode b_T_takeName 24 = .ok (.caload, 1) := by decide +kernel
theorem d_T_takeName_25 : decode b_T_takeName 25 = .ok (.invokestatic 63, 3) := by decide +kernel
theorem d_T_takeName_28 : decode b_T_takeName 28 = .ok (.ifCond .ne 5, 3) := by decide +kernel
theorem d_T_takeName_31 : decode b_T_takeName 31 = .ok (.iconst 0, 1) := by decide +kernel
theorem d_T_takeName_32 : decode b_T_takeName 32 = .ok (.ireturn, 1) := by decide +kernel
theorem d_T_takeName_33 : decode b_T_takeName 33 = .ok (.iconst 0, 1) := by decide +kernel
theorem d_T_takeName_34 : decode b_T_takeName 34 = .ok (.istore_n 3, 1) := by decide +kernel
theorem d_T_takeName_35 : decode b_T_takeName 35 = .ok (.iload_n 3, 1) := by decide +kernel
theorem d_T_takeName_36 : decode b_T_takeName 36 = .ok (.bipush 6, 2) := by decide +kernel
theorem d_T_takeName_38 : decode b_T_takeName 38 = .ok (.if_icmp .ge 63, 3) := by decide +kernel
theorem d_T_takeName_41 : decode b_T_takeName 41 = .ok (.aload_n 0, 1) := by decide +kernel
theorem d_T_takeName_42 : decode b_T_takeName 42 = .ok (.getfield 29, 3) := by decide +kernel
theorem d_T_takeName_45 : decode b_T_takeName 45 = .ok (.aload_n 0, 1) := by decide +kernel
theorem d_T_takeName_46 : decode b_T_takeName 46 = .ok (.getfield 25, 3) := by decide +kernel
theorem d_T_takeName_49 : decode b_T_takeName 49 = .ok (.if_icmp .ge 52, 3) := by decide +kernel
theorem d_T_takeName_52 : decode b_T_takeName 52 = .ok (.aload_n 0, 1) := by decide +kernel
theorem d_T_takeName_53 : decode b_T_takeName 53 = .ok (.getfield 9, 3) := by decide +kernel
theorem d_T_takeName_56 : decode b_T_takeName 56 = .ok (.aload_n 0, 1) := by decide +kernel
theorem d_T_takeName_57 : decode b_T_takeName 57 = .ok (.getfield 29, 3) := by decide +kernel
theorem d_T_takeName_60 : decode b_T_takeName 60 = .ok (.caload, 1) := by decide +kernel
theorem d_T_takeName_61 : decode b_T_takeName 61 = .ok (.invokestatic 63, 3) := by decide +kernel
theorem d_T_takeName_64 : decode b_T_takeName 64 = .ok (.ifCond .ne 21, 3) := by decide +kernel
theorem d_T_takeName_67 : decode b_T_takeName 67 = .ok (.aload_n 0, 1) := by decide +kernel
theorem d_T_takeName_68 : decode b_T_takeName 68 = .ok (.getfield 9, 3) := by decide +kernel
theorem d_T_takeName_71 : decode b_T_takeName 71 = .ok (.aload_n 0, 1) := by decide +kernel
theorem d_T_takeName_72 : decode b_T_takeName 72 = .ok (.getfield 29, 3) := by decide +kernel
theorem d_T_takeName_75 : decode b_T_takeName 75 = .ok (.caload, 1) := by decide +kernel
theorem d_T_takeName_76 : decode b_T_takeName 76 = .ok (.invokestatic 59, 3) := by decide +kernel
theorem d_T_takeName_79 : decode b_T_takeName 79 = .ok (.ifCond .ne 6, 3) := by decide +kernel
theorem d_T_takeName_82 : decode b_T_takeName 82 = .ok (.goto 19, 3) := by decide +kernel
theorem d_T_takeName_85 : decode b_T_takeName 85 = .ok (.aload_n 0, 1) := by decide +kernel
theorem d_T_takeName_86 : decode b_T_takeName 86 = .ok (.dup, 1) := by decide +kernel
theorem d_T_takeName_87 : decode b_T_takeName 87 = .ok (.getfield 29, 3) := by decide +kernel
theorem d_T_takeName_90 : decode b_T_takeName 90 = .ok (.iconst 1, 1) := by decide +kernel
theorem d_T_takeName_91 : decode b_T_takeName 91 = .ok (.iadd, 1) := by decide +kernel
theorem d_T_takeName_92 : decode b_T_takeName 92 = .ok (.putfield 29, 3) := by decide +kernel
theorem d_T_takeName_95 : decode b_T_takeName 95 = .ok (.iinc 3 1, 3) := by decide +kernel
theorem d_T_takeName_98 : decode b_T_takeName 98 = .ok (.goto (-63), 3) := by decide +kernel
theorem d_T_takeName_101 : decode b_T_takeName 101 = .ok (.aload_n 0, 1) := by decide +kernel
theorem d_T_takeName_102 : decode b_T_takeName 102 = .ok (.getfield 22, 3) := by decide +kernel
theorem d_T_takeName_105 : decode b_T_takeName 105 = .ok (.iload_n 2, 1) := by decide +kernel
theorem d_T_takeName_106 : decode b_T_takeName 106 = .ok (.iload_n 1, 1) := by decide +kernel
theorem d_T_takeName_107 : decode b_T_takeName 107 = .ok (.iastore, 1) := by decide +kernel
theorem d_T_takeName_108 : decode b_T_takeName 108 = .ok (.iconst 1, 1) := by decide +kernel
theorem d_T_takeName_109 : decode b_T_takeName 109 = .ok (.ireturn, 1) := by decide +kernel
abbrev y_T_takeQuote : MethodName := ⟨"DeckFront$Tape", "takeQuote", "()Z"⟩
abbrev b_T_takeQuote : ByteArray := prog_6_method_11_code
abbrev w_T_takeQuote : List Cond := (Jvm.Cond.code ({ cls := "DeckFront$Tape", name := "takeQuote", desc := "()Z" } : Jvm.MethodName) prog_6_method_11_code (2 : Nat) (Option.some Jvm.ClassFile.FieldType.boolean)) :: wG
theorem d_T_takeQuote_0 : decode b_T_takeQuote 0 = .ok (.aload_n 0, 1) := by decide +kernel
theorem d_T_takeQuote_1 : decode b_T_takeQuote 1 = .ok (.bipush 39, 2) := by decide +kernel
theorem d_T_takeQuote_3 : decode b_T_takeQuote 3 = .ok (.invokevirtual 55, 3) := by decide +kernel
theorem d_T_takeQuote_6 : decode b_T_takeQuote 6 = .ok (.ifCond .ne 5, 3) := by decide +kernel
theorem d_T_takeQuote_9 : decode b_T_takeQuote 9 = .ok (.iconst 0, 1) := by decide +kernel
theorem d_T_takeQuote_10 : decode b_T_takeQuote 10 = .ok (.ireturn, 1) := by decide +kernel
theorem d_T_takeQuote_11 : decode b_T_takeQuote 11 = .ok (.aload_n 0, 1) := by decide +kernel
theorem d_T_takeQuote_12 : decode b_T_takeQuote 12 = .ok (.getfield 29, 3) := by decide +kernel
theorem d_T_takeQuote_15 : decode b_T_takeQuote 15 = .ok (.iconst 1, 1) := by decide +kernel
theorem d_T_takeQuote_16 : decode b_T_takeQuote 16 = .ok (.iadd, 1) := by decide +kernel
theorem d_T_takeQuote_17 : decode b_T_takeQuote 17 = .ok (.istore_n 1, 1) := by decide +kernel
theorem d_T_takeQuote_18 : decode b_T_takeQuote 18 = .ok (.iload_n 1, 1) := by decide +kernel
theorem d_T_takeQuote_19 : decode b_T_takeQuote 19 = .ok (.aload_n 0, 1) := by decide +kernel
theorem d_T_takeQuote_20 : decode b_T_takeQuote 20 = .ok (.getfield 25, 3) := by decide +kernel
theorem d_T_takeQuote_23 : decode b_T_takeQuote 23 = .ok (.if_icmp .ge 29, 3) := by decide +kernel
theorem d_T_takeQuote_26 : decode b_T_takeQuote 26 = .ok (.aload_n 0, 1) := by decide +kernel
theorem d_T_takeQuote_27 : decode b_T_takeQuote 27 = .ok (.getfield 9, 3) := by decide +kernel
theorem d_T_takeQuote_30 : decode b_T_takeQuote 30 = .ok (.iload_n 1, 1) := by decide +kernel
theorem d_T_takeQuote_31 : decode b_T_takeQuote 31 = .ok (.caload, 1) := by decide +kernel
theorem d_T_takeQuote_32 : decode b_T_takeQuote 32 = .ok (.bipush 39, 2) := by decide +kernel
theorem d_T_takeQuote_34 : decode b_T_takeQuote 34 = .ok (.if_icmp .ne 12, 3) := by decide +kernel
theorem d_T_takeQuote_37 : decode b_T_takeQuote 37 = .ok (.aload_n 0, 1) := by decide +kernel
theorem d_T_takeQuote_38 : decode b_T_takeQuote 38 = .ok (.iload_n 1, 1) := by decide +kernel
theorem d_T_takeQuote_39 : decode b_T_takeQuote 39 = .ok (.iconst 1, 1) := by decide +kernel
theorem d_T_takeQuote_40 : decode b_T_takeQuote 40 = .ok (.iadd, 1) := by decide +kernel
theorem d_T_takeQuote_41 : decode b_T_takeQuote 41 = .ok (.putfield 29, 3) := by decide +kernel
theorem d_T_takeQuote_44 : decode b_T_takeQuote 44 = .ok (.iconst 1, 1) := by decide +kernel
theorem d_T_takeQuote_45 : decode b_T_takeQuote 45 = .ok (.ireturn, 1) := by decide +kernel
theorem d_T_takeQuote_46 : decode b_T_takeQuote 46 = .ok (.iinc 1 1, 3) := by decide +kernel
theorem d_T_takeQuote_49 : decode b_T_takeQuote 49 = .ok (.goto (-31), 3) := by decide +kernel
theorem d_T_takeQuote_52 : decode b_T_takeQuote 52 = .ok (.iconst 0, 1) := by decide +kernel
theorem d_T_takeQuote_53 : decode b_T_takeQuote 53 = .ok (.ireturn, 1) := by decide +kernel
abbrev y_T_takeDecimal : MethodName := ⟨"DeckFront$Tape", "takeDecimal", "()Z"⟩
abbrev b_T_takeDecimal : ByteArray := prog_6_method_12_code
abbrev w_T_takeDecimal : List Cond := (Jvm.Cond.code ({ cls := "DeckFront$Tape", name := "takeDecimal", desc := "()Z" } : Jvm.MethodName) prog_6_method_12_code (4 : Nat) (Option.some Jvm.ClassFile.FieldType.boolean)) :: wG
theorem d_T_takeDecimal_0 : decode b_T_takeDecimal 0 = .ok (.aload_n 0, 1) := by decide +kernel
theorem d_T_takeDecimal_1 : decode b_T_takeDecimal 1 = .ok (.aload_n 0, 1) := by decide +kernel
theorem d_T_takeDecimal_2 : decode b_T_takeDecimal 2 = .ok (.getfield 29, 3) := by decide +kernel
theorem d_T_takeDecimal_5 : decode b_T_takeDecimal 5 = .ok (.invokevirtual 66, 3) := by decide +kernel
theorem d_T_takeDecimal_8 : decode b_T_takeDecimal 8 = .ok (.istore_n 1, 1) := by decide +kernel
theorem d_T_takeDecimal_9 : decode b_T_takeDecimal 9 = .ok (.iload_n 1, 1) := by decide +kernel
theorem d_T_takeDecimal_10 : decode b_T_takeDecimal 10 = .ok (.aload_n 0, 1) := by decide +kernel
theorem d_T_takeDecimal_11 : decode b_T_takeDecimal 11 = .ok (.getfield 29, 3) := by decide +kernel
theorem d_T_takeDecimal_14 : decode b_T_takeDecimal 14 = .ok (.if_icmp .le 7, 3) := by decide +kernel
theorem d_T_takeDecimal_17 : decode b_T_takeDecimal 17 = .ok (.iconst 1, 1) := by decide +kernel
theorem d_T_takeDecimal_18 : decode b_T_takeDecimal 18 = .ok (.goto 4, 3) := by decide +kernel
theorem d_T_takeDecimal_21 : decode b_T_takeDecimal 21 = .ok (.iconst 0, 1) := by decide +kernel
theorem d_T_takeDecimal_22 : decode b_T_takeDecimal 22 = .ok (.istore_n 2, 1) := by decide +kernel
theorem d_T_takeDecimal_23 : decode b_T_takeDecimal 23 = .ok (.aload_n 0, 1) := by decide +kernel
theorem d_T_takeDecimal_24 : decode b_T_takeDecimal 24 = .ok (.iload_n 1, 1) := by decide +kernel
theorem d_T_takeDecimal_25 : decode b_T_takeDecimal 25 = .ok (.ldc 70, 2) := by decide +kernel
theorem d_T_takeDecimal_27 : decode b_T_takeDecimal 27 = .ok (.invokevirtual 51, 3) := by decide +kernel
theorem d_T_takeDecimal_30 : decode b_T_takeDecimal 30 = .ok (.ifCond .eq 34, 3) := by decide +kernel
theorem d_T_takeDecimal_33 : decode b_T_takeDecimal 33 = .ok (.aload_n 0, 1) := by decide +kernel
theorem d_T_takeDecimal_34 : decode b_T_takeDecimal 34 = .ok (.iload_n 1, 1) := by decide +kernel
theorem d_T_takeDecimal_35 : decode b_T_takeDecimal 35 = .ok (.invokevirtual 72, 3) := by decide +kernel
theorem d_T_takeDecimal_38 : decode b_T_takeDecimal 38 = .ok (.ifCond .ne 26, 3) := by decide +kernel
theorem d_T_takeDecimal_41 : decode b_T_takeDecimal 41 = .ok (.aload_n 0, 1) := by decide +kernel
theorem d_T_takeDecimal_42 : decode b_T_takeDecimal 42 = .ok (.iload_n 1, 1) := by decide +kernel
theorem d_T_takeDecimal_43 : decode b_T_takeDecimal 43 = .ok (.iconst 1, 1) := by decide +kernel
theorem d_T_takeDecimal_44 : decode b_T_takeDecimal 44 = .ok (.iadd, 1) := by decide +kernel
theorem d_T_takeDecimal_45 : decode b_T_takeDecimal 45 = .ok (.invokevirtual 66, 3) := by decide +kernel
theorem d_T_takeDecimal_48 : decode b_T_takeDecimal 48 = .ok (.istore_n 3, 1) := by decide +kernel
theorem d_T_takeDecimal_49 : decode b_T_takeDecimal 49 = .ok (.iload_n 2, 1) := by decide +kernel
theorem d_T_takeDecimal_50 : decode b_T_takeDecimal 50 = .ok (.ifCond .ne 12, 3) := by decide +kernel
theorem d_T_takeDecimal_53 : decode b_T_takeDecimal 53 = .ok (.iload_n 3, 1) := by decide +kernel
theorem d_T_takeDecimal_54 : decode b_T_takeDecimal 54 = .ok (.iload_n 1, 1) := by decide +kernel
theorem d_T_takeDecimal_55 : decode b_T_takeDecimal 55 = .ok (.iconst 1, 1) := by decide +kernel
theorem d_T_takeDecimal_56 : decode b_T_takeDecimal 56 = .ok (.iadd, 1) := by decide +kernel
theorem d_T_takeDecimal_57 : decode b_T_takeDecimal 57 = .ok (.if_icmp .ne 5, 3) := by decide +kernel
theorem d_T_takeDecimal_60 : decode b_T_takeDecimal 60 = .ok (.iconst 0, 1) := by decide +kernel
theorem d_T_takeDecimal_61 : decode b_T_takeDecimal 61 = .ok (.ireturn, 1) := by decide +kernel
theorem d_T_takeDecimal_62 : decode b_T_takeDecimal 62 = .ok (.iload_n 3, 1) := by decide +kernel
theorem d_T_takeDecimal_63 : decode b_T_takeDecimal 63 = .ok (.istore_n 1, 1) := by decide +kernel
theorem d_T_takeDecimal_64 : decode b_T_takeDecimal 64 = .ok (.iload_n 1, 1) := by decide +kernel
theorem d_T_takeDecimal_65 : decode b_T_takeDecimal 65 = .ok (.aload_n 0, 1) := by decide +kernel
theorem d_T_takeDecimal_66 : decode b_T_takeDecimal 66 = .ok (.getfield 29, 3) := by decide +kernel
theorem d_T_takeDecimal_69 : decode b_T_takeDecimal 69 = .ok (.if_icmp .le 7, 3) := by decide +kernel
theorem d_T_takeDecimal_72 : decode b_T_takeDecimal 72 = .ok (.iconst 1, 1) := by decide +kernel
theorem d_T_takeDecimal_73 : decode b_T_takeDecimal 73 = .ok (.goto 4, 3) := by decide +kernel
theorem d_T_takeDecimal_76 : decode b_T_takeDecimal 76 = .ok (.iconst 0, 1) := by decide +kernel
theorem d_T_takeDecimal_77 : decode b_T_takeDecimal 77 = .ok (.istore_n 3, 1) := by decide +kernel
theorem d_T_takeDecimal_78 : decode b_T_takeDecimal 78 = .ok (.aload_n 0, 1) := by decide +kernel
theorem d_T_takeDecimal_79 : decode b_T_takeDecimal 79 = .ok (.iload_n 1, 1) := by decide +kernel
theorem d_T_takeDecimal_80 : decode b_T_takeDecimal 80 = .ok (.putfield 29, 3) := by decide +kernel
theorem d_T_takeDecimal_83 : decode b_T_takeDecimal 83 = .ok (.iload_n 3, 1) := by decide +kernel
theorem d_T_takeDecimal_84 : decode b_T_takeDecimal 84 = .ok (.ireturn, 1) := by decide +kernel
abbrev y_T_takeExponent : MethodName := ⟨"DeckFront$Tape", "takeExponent", "()Z"⟩
abbrev b_T_takeExponent : ByteArray := prog_6_method_13_code
abbrev w_T_takeExponent : List Cond := (Jvm.Cond.code ({ cls := "DeckFront$Tape", name := "takeExponent", desc := "()Z" } : Jvm.MethodName) prog_6_method_13_code (3 : Nat) (Option.some Jvm.ClassFile.FieldType.boolean)) :: wG
theorem d_T_takeExponent_0 : decode b_T_takeExponent 0 = .ok (.aload_n 0, 1) := by decide +kernel
theorem d_T_takeExponent_1 : decode b_T_takeExponent 1 = .ok (.bipush 69, 2) := by decide +kernel
theorem d_T_takeExponent_3 : decode b_T_takeExponent 3 = .ok (.invokevirtual 55, 3) := by decide +kernel
theorem d_T_takeExponent_6 : decode b_T_takeExponent 6 = .ok (.ifCond .eq 68, 3) := by decide +kernel
theorem d_T_takeExponent_9 : decode b_T_takeExponent 9 = .ok (.aload_n 0, 1) := by decide +kernel
theorem d_T_takeExponent_10 : decode b_T_takeExponent 10 = .ok (.aload_n 0, 1) := by decide +kernel
theorem d_T_takeExponent_11 : decode b_T_takeExponent 11 = .ok (.getfield 29, 3) := by decide +kernel
theorem d_T_takeExponent_14 : decode b_T_takeExponent 14 = .ok (.ldc 75, 2) := by decide +kernel
theorem d_T_takeExponent_16 : decode b_T_takeExponent 16 = .ok (.invokevirtual 51, 3) := by decide +kernel
theorem d_T_takeExponent_19 : decode b_T_takeExponent 19 = .ok (.ifCond .ne 16, 3) := by decide +kernel
theorem d_T_takeExponent_22 : decode b_T_takeExponent 22 = .ok (.aload_n 0, 1) := by decide +kernel
theorem d_T_takeExponent_23 : decode b_T_takeExponent 23 = .ok (.aload_n 0, 1) := by decide +kernel
theorem d_T_takeExponent_24 : decode b_T_takeExponent 24 = .ok (.getfield 29, 3) := by decide +kernel
theorem d_T_takeExponent_27 : decode b_T_takeExponent 27 = .ok (.ldc 77, 2) := by decide +kernel
theorem d_T_takeExponent_29 : decode b_T_takeExponent 29 = .ok (.invokevirtual 51, 3) := by decide +kernel
theorem d_T_takeExponent_32 : decode b_T_takeExponent 32 = .ok (.ifCond .eq 12, 3) := by decide +kernel
theorem d_T_takeExponent_35 : decode b_T_takeExponent 35 = .ok (.aload_n 0, 1) := by decide +kernel
theorem d_T_takeExponent_36 : decode b_T_takeExponent 36 = .ok (.getfield 29, 3) := by decide +kernel
theorem d_T_takeExponent_39 : decode b_T_takeExponent 39 = .ok (.iconst 2, 1) := by decide +kernel
theorem d_T_takeExponent_40 : decode b_T_takeExponent 40 = .ok (.iadd, 1) := by decide +kernel
theorem d_T_takeExponent_41 : decode b_T_takeExponent 41 = .ok (.goto 9, 3) := by decide +kernel
theorem d_T_takeExponent_44 : decode b_T_takeExponent 44 = .ok (.aload_n 0, 1) := by decide +kernel
theorem d_T_takeExponent_45 : decode b_T_takeExponent 45 = .ok (.getfield 29, 3) := by decide +kernel
theorem d_T_takeExponent_48 : decode b_T_takeExponent 48 = .ok (.iconst 1, 1) := by decide +kernel
theorem d_T_takeExponent_49 : decode b_T_takeExponent 49 = .ok (.iadd, 1) := by decide +kernel
theorem d_T_takeExponent_50 : decode b_T_takeExponent 50 = .ok (.istore_n 1, 1) := by decide +kernel
theorem d_T_takeExponent_51 : decode b_T_takeExponent 51 = .ok (.aload_n 0, 1) := by decide +kernel
theorem d_T_takeExponent_52 : decode b_T_takeExponent 52 = .ok (.iload_n 1, 1) := by decide +kernel
theorem d_T_takeExponent_53 : decode b_T_takeExponent 53 = .ok (.invokevirtual 66, 3) := by decide +kernel
theorem d_T_takeExponent_56 : decode b_T_takeExponent 56 = .ok (.istore_n 2, 1) := by decide +kernel
theorem d_T_takeExponent_57 : decode b_T_takeExponent 57 = .ok (.aload_n 0, 1) := by decide +kernel
theorem d_T_takeExponent_58 : decode b_T_takeExponent 58 = .ok (.iload_n 2, 1) := by decide +kernel
theorem d_T_takeExponent_59 : decode b_T_takeExponent 59 = .ok (.iload_n 1, 1) := by decide +kernel
theorem d_T_takeExponent_60 : decode b_T_takeExponent 60 = .ok (.if_icmp .le 7, 3) := by decide +kernel
theorem d_T_takeExponent_63 : decode b_T_takeExponent 63 = .ok (.iload_n 2, 1) := by decide +kernel
theorem d_T_takeExponent_64 : decode b_T_takeExponent 64 = .ok (.goto 7, 3) := by decide +kernel
theorem d_T_takeExponent_67 : decode b_T_takeExponent 67 = .ok (.aload_n 0, 1) := by decide +kernel
theorem d_T_takeExponent_68 : decode b_T_takeExponent 68 = .ok (.getfield 29, 3) := by decide +kernel
theorem d_T_takeExponent_71 : decode b_T_takeExponent 71 = .ok (.putfield 29, 3) := by decide +kernel
theorem d_T_takeExponent_74 : decode b_T_takeExponent 74 = .ok (.iconst 1, 1) := by decide +kernel
theorem d_T_takeExponent_75 : decode b_T_takeExponent 75 = .ok (.ireturn, 1) := by decide +kernel
abbrev y_T_digitsEnd : MethodName := ⟨"DeckFront$Tape", "digitsEnd", "(I)I"⟩
abbrev b_T_digitsEnd : ByteArray := prog_6_method_14_code
abbrev w_T_digitsEnd : List Cond := (Jvm.Cond.code ({ cls := "DeckFront$Tape", name := "digitsEnd", desc := "(I)I" } : Jvm.MethodName) prog_6_method_14_code (3 : Nat) (Option.some Jvm.ClassFile.FieldType.int)) :: wG
theorem d_T_digitsEnd_0 : decode b_T_digitsEnd 0 = .ok (.iload_n 1, 1) := by decide +kernel
theorem d_T_digitsEnd_1 : decode b_T_digitsEnd 1 = .ok (.istore_n 2, 1) := by decide +kernel
theorem d_T_digitsEnd_2 : decode b_T_digitsEnd 2 = .ok (.iload_n 2, 1) := by decide +kernel
theorem d_T_digitsEnd_3 : decode b_T_digitsEnd 3 = .ok (.aload_n 0, 1) := by decide +kernel
theorem d_T_digitsEnd_4 : decode b_T_digitsEnd 4 = .ok (.getfield 25, 3) := by decide +kernel
theorem d_T_digitsEnd_7 : decode b_T_digitsEnd 7 = .ok (.if_icmp .ge 21, 3) := by decide +kernel
theorem d_T_digitsEnd_10 : decode b_T_digitsEnd 10 = .ok (.aload_n 0, 1) := by decide +kernel
theorem d_T_digitsEnd_11 : decode b_T_digitsEnd 11 = .ok (.getfield 9, 3) := by decide +kernel
theorem d_T_digitsEnd_14 : decode b_T_digitsEnd 14 = .ok (.iload_n 2, 1) := by decide +kernel
theorem d_T_digitsEnd_15 : decode b_T_digitsEnd 15 = .ok (.caload, 1) := by decide +kernel
theorem d_T_digitsEnd_16 : decode b_T_digitsEnd 16 = .ok (.invokestatic 59, 3) := by decide +kernel
theorem d_T_digitsEnd_19 : decode b_T_digitsEnd 19 = .ok (.ifCond .eq 9, 3) := by decide +kernel
theorem d_T_digitsEnd_22 : decode b_T_digitsEnd 22 = .ok (.iinc 2 1, 3) := by decide +kernel
theorem d_T_digitsEnd_25 : decode b_T_digitsEnd 25 = .ok (.goto (-23), 3) := by decide +kernel
theorem d_T_digitsEnd_28 : decode b_T_digitsEnd 28 = .ok (.iload_n 2, 1) := by decide +kernel
theorem d_T_digitsEnd_29 : decode b_T_digitsEnd 29 = .ok (.ireturn, 1) := by decide +kernel
abbrev y_T_standsLogicalWord : MethodName := ⟨"DeckFront$Tape", "standsLogicalWord", "(I)Z"⟩
abbrev b_T_standsLogicalWord : ByteArray := prog_6_method_15_code
abbrev w_T_standsLogicalWord : List Cond := (Jvm.Cond.code ({ cls := "DeckFront$Tape", name := "standsLogicalWord", desc := "(I)Z" } : Jvm.MethodName) prog_6_method_15_code (2 : Nat) (Option.some Jvm.ClassFile.FieldType.boolean)) :: wG
theorem d_T_standsLogicalWord_0 : decode b_T_standsLogicalWord 0 = .ok (.aload_n 0, 1) := by decide +kernel
theorem d_T_standsLogicalWord_1 : decode b_T_standsLogicalWord 1 = .ok (.iload_n 1, 1) := by decide +kernel
theorem d_T_standsLogicalWord_2 : decode b_T_standsLogicalWord 2 = .ok (.ldc 79, 2) := by decide +kernel
theorem d_T_standsLogicalWord_4 : decode b_T_standsLogicalWord 4 = .ok (.invokevirtual 51, 3) := by decide +kernel
theorem d_T_standsLogicalWord_7 : decode b_T_standsLogicalWord 7 = .ok (.ifCond .ne 103, 3) := by decide +kernel
theorem d_T_standsLogicalWord_10 : decode b_T_standsLogicalWord 10 = .ok (.aload_n 0, 1) := by decide +kernel
theorem d_T_standsLogicalWord_11 : decode b_T_standsLogicalWord 11 = .ok (.iload_n 1, 1) := by decide +kernel
theorem d_T_standsLogicalWord_12 : decode b_T_standsLogicalWord 12 = .ok (.ldc 81, 2) := by decide +kernel
theorem d_T_standsLogicalWord_14 : decode b_T_standsLogicalWord 14 = .ok (.invokevirtual 51, 3) := by decide +kernel
theorem d_T_standsLogicalWord_17 : decode b_T_standsLogicalWord 17 = .ok (.ifCond .ne 93, 3) := by decide +kernel
theorem d_T_standsLogicalWord_20 : decode b_T_standsLogicalWord 20 = .ok (.aload_n 0, 1) := by decide +kernel
theorem d_T_standsLogicalWord_21 : decode b_T_standsLogicalWord 21 = .ok (.iload_n 1, 1) := by decide +kernel
theorem d_T_standsLogicalWord_22 : decode b_T_standsLogicalWord 22 = .ok (.ldc 83, 2) := by decide +kernel
theorem d_T_standsLogicalWord_24 : decode b_T_standsLogicalWord 24 = .ok (.invokevirtual 51, 3) := by decide +kernel
theorem d_T_standsLogicalWord_27 : decode b_T_standsLogicalWord 27 = .ok (.ifCond .ne 83, 3) := by decide +kernel
theorem d_T_standsLogicalWord_30 : decode b_T_standsLogicalWord 30 = .ok (.aload_n 0, 1) := by decide +kernel
theorem d_T_standsLogicalWord_31 : decode b_T_standsLogicalWord 31 = .ok (.iload_n 1, 1) := by decide +kernel
theorem d_T_standsLogicalWord_32 : decode b_T_standsLogicalWord 32 = .ok (.ldc 85, 2) := by decide +kernel
theorem d_T_standsLogicalWord_34 : decode b_T_standsLogicalWord 34 = .ok (.invokevirtual 51, 3) := by decide +kernel
theorem d_T_standsLogicalWord_37 : decode b_T_standsLogicalWord 37 = .ok (.ifCond .ne 73, 3) := by decide +kernel
theorem d_T_standsLogicalWord_40 : decode b_T_standsLogicalWord 40 = .ok (.aload_n 0, 1) := by decide +kernel
theorem d_T_standsLogicalWord_41 : decode b_T_standsLogicalWord 41 = .ok (.iload_n 1, 1) := by decide +kernel
theorem d_T_standsLogicalWord_42 : decode b_T_standsLogicalWord 42 = .ok (.ldc 87, 2) := by decide +kernel
theorem d_T_standsLogicalWord_44 : decode b_T_standsLogicalWord 44 = .ok (.invokevirtual 51, 3) := by decide +kernel
theorem d_T_standsLogicalWord_47 : decode b_T_standsLogicalWord 47 = .ok (.ifCond .ne 63, 3) := by decide +kernel
theorem d_T_standsLogicalWord_50 : decode b_T_standsLogicalWord 50 = .ok (.aload_n 0, 1) := by decide +kernel
theorem d_T_standsLogicalWord_51 : decode b_T_standsLogicalWord 51 = .ok (.iload_n 1, 1) := by decide +kernel
theorem d_T_standsLogicalWord_52 : decode b_T_standsLogicalWord 52 = .ok (.ldc 89, 2) := by decide +kernel
theorem d_T_standsLogicalWord_54 : decode b_T_standsLogicalWord 54 = .ok (.invokevirtual 51, 3) := by decide +kernel
theorem d_T_standsLogicalWord_57 : decode b_T_standsLogicalWord 57 = .ok (.ifCond .ne 53, 3) := by decide +kernel
theorem d_T_standsLogicalWord_60 : decode b_T_standsLogicalWord 60 = .ok (.aload_n 0, 1) := by decide +kernel
theorem d_T_standsLogicalWord_61 : decode b_T_standsLogicalWord 61 = .ok (.iload_n 1, 1) := by decide +kernel
theorem d_T_standsLogicalWord_62 : decode b_T_standsLogicalWord 62 = .ok (.ldc 91, 2) := by decide +kernel
theorem d_T_standsLogicalWord_64 : decode b_T_standsLogicalWord 64 = .ok (.invokevirtual 51, 3) := by decide +kernel
theorem d_T_standsLogicalWord_67 : decode b_T_standsLogicalWord 67 = .ok (.ifCond .ne 43, 3) := by decide +kernel
theorem d_T_standsLogicalWord_70 : decode b_T_standsLogicalWord 70 = .ok (.aload_n 0, 1) := by decide +kernel
theorem d_T_standsLogicalWord_71 : decode b_T_standsLogicalWord 71 = .ok (.iload_n 1, 1) := by decide +kernel
theorem d_T_standsLogicalWord_72 : decode b_T_standsLogicalWord 72 = .ok (.ldc 93, 2) := by decide +kernel
theorem d_T_standsLogicalWord_74 : decode b_T_standsLogicalWord 74 = .ok (.invokevirtual 51, 3) := by decide +kernel
theorem d_T_standsLogicalWord_77 : decode b_T_standsLogicalWord 77 = .ok (.ifCond .ne 33, 3) := by decide +kernel
theorem d_T_standsLogicalWord_80 : decode b_T_standsLogicalWord 80 = .ok (.aload_n 0, 1) := by decide +kernel
theorem d_T_standsLogicalWord_81 : decode b_T_standsLogicalWord 81 = .ok (.iload_n 1, 1) := by decide +kernel
theorem d_T_standsLogicalWord_82 : decode b_T_standsLogicalWord 82 = .ok (.ldc 95, 2) := by decide +kernel
theorem d_T_standsLogicalWord_84 : decode b_T_standsLogicalWord 84 = .ok (.invokevirtual 51, 3) := by decide +kernel
theorem d_T_standsLogicalWord_87 : decode b_T_standsLogicalWord 87 = .ok (.ifCond .ne 23, 3) := by decide +kernel
theorem d_T_standsLogicalWord_90 : decode b_T_standsLogicalWord 90 = .ok (.aload_n 0, 1) := by decide +kernel
theorem d_T_standsLogicalWord_91 : decode b_T_standsLogicalWord 91 = .ok (.iload_n 1, 1) := by decide +kernel
theorem d_T_standsLogicalWord_92 : decode b_T_standsLogicalWord 92 = .ok (.ldc 97, 2) := by decide +kernel
theorem d_T_standsLogicalWord_94 : decode b_T_standsLogicalWord 94 = .ok (.invokevirtual 51, 3) := by decide +kernel
theorem d_T_standsLogicalWord_97 : decode b_T_standsLogicalWord 97 = .ok (.ifCond .ne 13, 3) := by decide +kernel
theorem d_T_standsLogicalWord_100 : decode b_T_standsLogicalWord 100 = .ok (.aload_n 0, 1) := by decide +kernel
theorem d_T_standsLogicalWord_101 : decode b_T_standsLogicalWord 101 = .ok (.iload_n 1, 1) := by decide +kernel
theorem d_T_standsLogicalWord_102 : decode b_T_standsLogicalWord 102 = .ok (.ldc 99, 2) := by decide +kernel
theorem d_T_standsLogicalWord_104 : decode b_T_standsLogicalWord 104 = .ok (.invokevirtual 51, 3) := by decide +kernel
theorem d_T_standsLogicalWord_107 : decode b_T_standsLogicalWord 107 = .ok (.ifCond .eq 7, 3) := by decide +kernel
theorem d_T_standsLogicalWord_110 : decode b_T_standsLogicalWord 110 = .ok (.iconst 1, 1) := by decide +kernel
theorem d_T_standsLogicalWord_111 : decode b_T_standsLogicalWord 111 = .ok (.goto 4, 3) := by decide +kernel
theorem d_T_standsLogicalWord_114 : decode b_T_standsLogicalWord 114 = .ok (.iconst 0, 1) := by decide +kernel
theorem d_T_standsLogicalWord_115 : decode b_T_standsLogicalWord 115 = .ok (.ireturn, 1) := by decide +kernel
abbrev y_T_close : MethodName := ⟨"DeckFront$Tape", "close", "(I)V"⟩
abbrev b_T_close : ByteArray := prog_6_method_16_code
abbrev w_T_close : List Cond := (Jvm.Cond.code ({ cls := "DeckFront$Tape", name := "close", desc := "(I)V" } : Jvm.MethodName) prog_6_method_16_code (2 : Nat) (Option.none : Option Jvm.ClassFile.FieldType)) :: wG
theorem d_T_close_0 : decode b_T_close 0 = .ok (.aload_n 0, 1) := by decide +kernel
theorem d_T_close_1 : decode b_T_close 1 = .ok (.getfield 29, 3) := by decide +kernel
theorem d_T_close_4 : decode b_T_close 4 = .ok (.ifCond .le 18, 3) := by decide +kernel
theorem d_T_close_7 : decode b_T_close 7 = .ok (.aload_n 0, 1) := by decide +kernel
theorem d_T_close_8 : decode b_T_close 8 = .ok (.getfield 19, 3) := by decide +kernel
theorem d_T_close_11 : decode b_T_close 11 = .ok (.aload_n 0, 1) := by decide +kernel
theorem d_T_close_12 : decode b_T_close 12 = .ok (.getfield 29, 3) := by decide +kernel
theorem d_T_close_15 : decode b_T_close 15 = .ok (.iconst 1, 1) := by decide +kernel
theorem d_T_close_16 : decode b_T_close 16 = .ok (.isub, 1) := by decide +kernel
theorem d_T_close_17 : decode b_T_close 17 = .ok (.dup2, 1) := by decide +kernel
theorem d_T_close_18 : decode b_T_close 18 = .ok (.iaload, 1) := by decide +kernel
theorem d_T_close_19 : decode b_T_close 19 = .ok (.iload_n 1, 1) := by decide +kernel
theorem d_T_close_20 : decode b_T_close 20 = .ok (.iadd, 1) := by decide +kernel
theorem d_T_close_21 : decode b_T_close 21 = .ok (.iastore, 1) := by decide +kernel
theorem d_T_close_22 : decode b_T_close 22 = .ok (.return_, 1) := by decide +kernel
abbrev y_T_signShown : MethodName := ⟨"DeckFront$Tape", "signShown", "(I)I"⟩
abbrev b_T_signShown : ByteArray := prog_6_method_17_code
abbrev w_T_signShown : List Cond := (Jvm.Cond.code ({ cls := "DeckFront$Tape", name := "signShown", desc := "(I)I" } : Jvm.MethodName) prog_6_method_17_code (4 : Nat) (Option.some Jvm.ClassFile.FieldType.int)) :: wG
theorem d_T_signShown_0 : decode b_T_signShown 0 = .ok (.iload_n 1, 1) := by decide +kernel
theorem d_T_signShown_1 : decode b_T_signShown 1 = .ok (.istore_n 2, 1) := by decide +kernel
theorem d_T_signShown_2 : decode b_T_signShown 2 = .ok (.iconst 0, 1) := by decide +kernel
theorem d_T_signShown_3 : decode b_T_signShown 3 = .ok (.istore_n 3, 1) := by decide +kernel
theorem d_T_signShown_4 : decode b_T_signShown 4 = .ok (.iload_n 3, 1) := by decide +kernel
theorem d_T_signShown_5 : decode b_T_signShown 5 = .ok (.aload_n 0, 1) := by decide +kernel
theorem d_T_signShown_6 : decode b_T_signShown 6 = .ok (.getfield 25, 3) := by decide +kernel
theorem d_T_signShown_9 : decode b_T_signShown 9 = .ok (.if_icmp .ge 81, 3) := by decide +kernel
theorem d_T_signShown_12 : decode b_T_signShown 12 = .ok (.iload_n 2, 1) := by decide +kernel
theorem d_T_signShown_13 : decode b_T_signShown 13 = .ok (.ifCond .lt 77, 3) := by decide +kernel
theorem d_T_signShown_16 : decode b_T_signShown 16 = .ok (.iload_n 2, 1) := by decide +kernel
theorem d_T_signShown_17 : decode b_T_signShown 17 = .ok (.aload_n 0, 1) := by decide +kernel
theorem d_T_signShown_18 : decode b_T_signShown 18 = .ok (.getfield 15, 3) := by decide +kernel
theorem d_T_signShown_21 : decode b_T_signShown 21 = .ok (.iload_n 3, 1) := by decide +kernel
theorem d_T_signShown_22 : decode b_T_signShown 22 = .ok (.iaload, 1) := by decide +kernel
theorem d_T_signShown_23 : decode b_T_signShown 23 = .ok (.if_icmp .ge 6, 3) := by decide +kernel
theorem d_T_signShown_26 : decode b_T_signShown 26 = .ok (.bipush 40, 2) := by decide +kernel
theorem d_T_signShown_28 : decode b_T_signShown 28 = .ok (.ireturn, 1) := by decide +kernel
theorem d_T_signShown_29 : decode b_T_signShown 29 = .ok (.iload_n 2, 1) := by decide +kernel
theorem d_T_signShown_30 : decode b_T_signShown 30 = .ok (.aload_n 0, 1) := by decide +kernel
theorem d_T_signShown_31 : decode b_T_signShown 31 = .ok (.getfield 15, 3) := by decide +kernel
theorem d_T_signShown_34 : decode b_T_signShown 34 = .ok (.iload_n 3, 1) := by decide +kernel
theorem d_T_signShown_35 : decode b_T_signShown 35 = .ok (.iaload, 1) := by decide +kernel
theorem d_T_signShown_36 : decode b_T_signShown 36 = .ok (.isub, 1) := by decide +kernel
theorem d_T_signShown_37 : decode b_T_signShown 37 = .ok (.istore_n 2, 1) := by decide +kernel
theorem d_T_signShown_38 : decode b_T_signShown 38 = .ok (.aload_n 0, 1) := by decide +kernel
theorem d_T_signShown_39 : decode b_T_signShown 39 = .ok (.getfield 22, 3) := by decide +kernel
theorem d_T_signShown_42 : decode b_T_signShown 42 = .ok (.iload_n 3, 1) := by decide +kernel
theorem d_T_signShown_43 : decode b_T_signShown 43 = .ok (.iaload, 1) := by decide +kernel
theorem d_T_signShown_44 : decode b_T_signShown 44 = .ok (.iconst 5, 1) := by decide +kernel
theorem d_T_signShown_45 : decode b_T_signShown 45 = .ok (.if_icmp .eq 17, 3) := by decide +kernel
theorem d_T_signShown_48 : decode b_T_signShown 48 = .ok (.iload_n 2, 1) := by decide +kernel
theorem d_T_signShown_49 : decode b_T_signShown 49 = .ok (.ifCond .ne 10, 3) := by decide +kernel
theorem d_T_signShown_52 : decode b_T_signShown 52 = .ok (.aload_n 0, 1) := by decide +kernel
theorem d_T_signShown_53 : decode b_T_signShown 53 = .ok (.getfield 9, 3) := by decide +kernel
theorem d_T_signShown_56 : decode b_T_signShown 56 = .ok (.iload_n 3, 1) := by decide +kernel
theorem d_T_signShown_57 : decode b_T_signShown 57 = .ok (.caload, 1) := by decide +kernel
theorem d_T_signShown_58 : decode b_T_signShown 58 = .ok (.ireturn, 1) := by decide +kernel
theorem d_T_signShown_59 : decode b_T_signShown 59 = .ok (.iinc 2 (-1), 3) := by decide +kernel
theorem d_T_signShown_62 : decode b_T_signShown 62 = .ok (.iload_n 2, 1) := by decide +kernel
theorem d_T_signShown_63 : decode b_T_signShown 63 = .ok (.aload_n 0, 1) := by decide +kernel
theorem d_T_signShown_64 : decode b_T_signShown 64 = .ok (.getfield 19, 3) := by decide +kernel
theorem d_T_signShown_67 : decode b_T_signShown 67 = .ok (.iload_n 3, 1) := by decide +kernel
theorem d_T_signShown_68 : decode b_T_signShown 68 = .ok (.iaload, 1) := by decide +kernel
theorem d_T_signShown_69 : decode b_T_signShown 69 = .ok (.if_icmp .ge 6, 3) := by decide +kernel
theorem d_T_signShown_72 : decode b_T_signShown 72 = .ok (.bipush 41, 2) := by decide +kernel
theorem d_T_signShown_74 : decode b_T_signShown 74 = .ok (.ireturn, 1) := by decide +kernel
theorem d_T_signShown_75 : decode b_T_signShown 75 = .ok (.iload_n 2, 1) := by decide +kernel
theorem d_T_signShown_76 : decode b_T_signShown 76 = .ok (.aload_n 0, 1) := by decide +kernel
theorem d_T_signShown_77 : decode b_T_signShown 77 = .ok (.getfield 19, 3) := by decide +kernel
theorem d_T_signShown_80 : decode b_T_signShown 80 = .ok (.iload_n 3, 1) := by decide +kernel
theorem d_T_signShown_81 : decode b_T_signShown 81 = .ok (.iaload, 1) := by decide +kernel
theorem d_T_signShown_82 : decode b_T_signShown 82 = .ok (.isub, 1) := by decide +kernel
theorem d_T_signShown_83 : decode b_T_signShown 83 = .ok (.istore_n 2, 1) := by decide +kernel
theorem d_T_signShown_84 : decode b_T_signShown 84 = .ok (.iinc 3 1, 3) := by decide +kernel
theorem d_T_signShown_87 : decode b_T_signShown 87 = .ok (.goto (-83), 3) := by decide +kernel
theorem d_T_signShown_90 : decode b_T_signShown 90 = .ok (.iconst (-1), 1) := by decide +kernel
theorem d_T_signShown_91 : decode b_T_signShown 91 = .ok (.ireturn, 1) := by decide +kernel
abbrev y_T_kindHere : MethodName := ⟨"DeckFront$Tape", "kindHere", "(J)I"⟩
abbrev b_T_kindHere : ByteArray := prog_6_method_18_code
abbrev w_T_kindHere : List Cond := (Jvm.Cond.code ({ cls := "DeckFront$Tape", name := "kindHere", desc := "(J)I" } : Jvm.MethodName) prog_6_method_18_code (6 : Nat) (Option.some Jvm.ClassFile.FieldType.int)) :: wG
theorem d_T_kindHere_0 : decode b_T_kindHere 0 = .ok (.iconst 0, 1) := by decide +kernel
theorem d_T_kindHere_1 : decode b_T_kindHere 1 = .ok (.istore_n 3, 1) := by decide +kernel
theorem d_T_kindHere_2 : decode b_T_kindHere 2 = .ok (.iconst 0, 1) := by decide +kernel
theorem d_T_kindHere_3 : decode b_T_kindHere 3 = .ok (.istore 4, 2) := by decide +kernel
theorem d_T_kindHere_5 : decode b_T_kindHere 5 = .ok (.iload 4, 2) := by decide +kernel
theorem d_T_kindHere_7 : decode b_T_kindHere 7 = .ok (.aload_n 0, 1) := by decide +kernel
theorem d_T_kindHere_8 : decode b_T_kindHere 8 = .ok (.getfield 25, 3) := by decide +kernel
theorem d_T_kindHere_11 : decode b_T_kindHere 11 = .ok (.if_icmp .ge 77, 3) := by decide +kernel
theorem d_T_kindHere_14 : decode b_T_kindHere 14 = .ok (.aload_n 0, 1) := by decide +kernel
theorem d_T_kindHere_15 : decode b_T_kindHere 15 = .ok (.getfield 22, 3) := by decide +kernel
theorem d_T_kindHere_18 : decode b_T_kindHere 18 = .ok (.iload 4, 2) := by decide +kernel
theorem d_T_kindHere_20 : decode b_T_kindHere 20 = .ok (.iaload, 1) := by decide +kernel
theorem d_T_kindHere_21 : decode b_T_kindHere 21 = .ok (.iconst 1, 1) := by decide +kernel
theorem d_T_kindHere_22 : decode b_T_kindHere 22 = .ok (.if_icmp .lt 18, 3) := by decide +kernel
theorem d_T_kindHere_25 : decode b_T_kindHere 25 = .ok (.aload_n 0, 1) := by decide +kernel
theorem d_T_kindHere_26 : decode b_T_kindHere 26 = .ok (.getfield 22, 3) := by decide +kernel
theorem d_T_kindHere_29 : decode b_T_kindHere 29 = .ok (.iload 4, 2) := by decide +kernel
theorem d_T_kindHere_31 : decode b_T_kindHere 31 = .ok (.iaload, 1) := by decide +kernel
theorem d_T_kindHere_32 : decode b_T_kindHere 32 = .ok (.iconst 4, 1) := by decide +kernel
theorem d_T_kindHere_33 : decode b_T_kindHere 33 = .ok (.if_icmp .gt 7, 3) := by decide +kernel
theorem d_T_kindHere_36 : decode b_T_kindHere 36 = .ok (.iconst 1, 1) := by decide +kernel
theorem d_T_kindHere_37 : decode b_T_kindHere 37 = .ok (.goto 4, 3) := by decide +kernel
theorem d_T_kindHere_40 : decode b_T_kindHere 40 = .ok (.iconst 0, 1) := by decide +kernel
theorem d_T_kindHere_41 : decode b_T_kindHere 41 = .ok (.istore 5, 2) := by decide +kernel
theorem d_T_kindHere_43 : decode b_T_kindHere 43 = .ok (.iload 5, 2) := by decide +kernel
theorem d_T_kindHere_45 : decode b_T_kindHere 45 = .ok (.ifCond .eq 37, 3) := by decide +kernel
theorem d_T_kindHere_48 : decode b_T_kindHere 48 = .ok (.iload_n 3, 1) := by decide +kernel
theorem d_T_kindHere_49 : decode b_T_kindHere 49 = .ok (.ifCond .eq 14, 3) := by decide +kernel
theorem d_T_kindHere_52 : decode b_T_kindHere 52 = .ok (.aload_n 0, 1) := by decide +kernel
theorem d_T_kindHere_53 : decode b_T_kindHere 53 = .ok (.getfield 22, 3) := by decide +kernel
theorem d_T_kindHere_56 : decode b_T_kindHere 56 = .ok (.iload 4, 2) := by decide +kernel
theorem d_T_kindHere_58 : decode b_T_kindHere 58 = .ok (.iaload, 1) := by decide +kernel
theorem d_T_kindHere_59 : decode b_T_kindHere 59 = .ok (.iload_n 3, 1) := by decide +kernel
theorem d_T_kindHere_60 : decode b_T_kindHere 60 = .ok (.if_icmp .ge 22, 3) := by decide +kernel
theorem d_T_kindHere_63 : decode b_T_kindHere 63 = .ok (.aload_n 0, 1) := by decide +kernel
theorem d_T_kindHere_64 : decode b_T_kindHere 64 = .ok (.iload 4, 2) := by decide +kernel
theorem d_T_kindHere_66 : decode b_T_kindHere 66 = .ok (.invokevirtual 101, 3) := by decide +kernel
theorem d_T_kindHere_69 : decode b_T_kindHere 69 = .ok (.lload_n 1, 1) := by decide +kernel
theorem d_T_kindHere_70 : decode b_T_kindHere 70 = .ok (.lcmp, 1) := by decide +kernel
theorem d_T_kindHere_71 : decode b_T_kindHere 71 = .ok (.ifCond .ne 11, 3) := by decide +kernel
theorem d_T_kindHere_74 : decode b_T_kindHere 74 = .ok (.aload_n 0, 1) := by decide +kernel
theorem d_T_kindHere_75 : decode b_T_kindHere 75 = .ok (.getfield 22, 3) := by decide +kernel
theorem d_T_kindHere_78 : decode b_T_kindHere 78 = .ok (.iload 4, 2) := by decide +kernel
theorem d_T_kindHere_80 : decode b_T_kindHere 80 = .ok (.iaload, 1) := by decide +kernel
theorem d_T_kindHere_81 : decode b_T_kindHere 81 = .ok (.istore_n 3, 1) := by decide +kernel
theorem d_T_kindHere_82 : decode b_T_kindHere 82 = .ok (.iinc 4 1, 3) := by decide +kernel
theorem d_T_kindHere_85 : decode b_T_kindHere 85 = .ok (.goto (-80), 3) := by decide +kernel
theorem d_T_kindHere_88 : decode b_T_kindHere 88 = .ok (.iload_n 3, 1) := by decide +kernel
theorem d_T_kindHere_89 : decode b_T_kindHere 89 = .ok (.ireturn, 1) := by decide +kernel
abbrev y_T_nameAt : MethodName := ⟨"DeckFront$Tape", "nameAt", "(I)J"⟩
abbrev b_T_nameAt : ByteArray := prog_6_method_19_code
abbrev w_T_nameAt : List Cond := (Jvm.Cond.code ({ cls := "DeckFront$Tape", name := "nameAt", desc := "(I)J" } : Jvm.MethodName) prog_6_method_19_code (5 : Nat) (Option.some Jvm.ClassFile.FieldType.long)) :: wG
theorem d_T_nameAt_0 : decode b_T_nameAt 0 = .ok (.lconst 0, 1) := by decide +kernel
theorem d_T_nameAt_1 : decode b_T_nameAt 1 = .ok (.lstore_n 2, 1) := by decide +kernel
theorem d_T_nameAt_2 : decode b_T_nameAt 2 = .ok (.iload_n 1, 1) := by decide +kernel
theorem d_T_nameAt_3 : decode b_T_nameAt 3 = .ok (.istore 4, 2) := by decide +kernel
theorem d_T_nameAt_5 : decode b_T_nameAt 5 = .ok (.iload 4, 2) := by decide +kernel
theorem d_T_nameAt_7 : decode b_T_nameAt 7 = .ok (.iload_n 1, 1) := by decide +kernel
theorem d_T_nameAt_8 : decode b_T_nameAt 8 = .ok (.bipush 6, 2) := by decide +kernel
theorem d_T_nameAt_10 : decode b_T_nameAt 10 = .ok (.iadd, 1) := by decide +kernel
theorem d_T_nameAt_11 : decode b_T_nameAt 11 = .ok (.if_icmp .ge 61, 3) := by decide +kernel
theorem d_T_nameAt_14 : decode b_T_nameAt 14 = .ok (.iload 4, 2) := by decide +kernel
theorem d_T_nameAt_16 : decode b_T_nameAt 16 = .ok (.aload_n 0, 1) := by decide +kernel
theorem d_T_nameAt_17 : decode b_T_nameAt 17 = .ok (.getfield 25, 3) := by decide +kernel
theorem d_T_nameAt_20 : decode b_T_nameAt 20 = .ok (.if_icmp .ge 52, 3) := by decide +kernel
theorem d_T_nameAt_23 : decode b_T_nameAt 23 = .ok (.aload_n 0, 1) := by decide +kernel
theorem d_T_nameAt_24 : decode b_T_nameAt 24 = .ok (.getfield 9, 3) := by decide +kernel
theorem d_T_nameAt_27 : decode b_T_nameAt 27 = .ok (.iload 4, 2) := by decide +kernel
theorem d_T_nameAt_29 : decode b_T_nameAt 29 = .ok (.caload, 1) := by decide +kernel
theorem d_T_nameAt_30 : decode b_T_nameAt 30 = .ok (.invokestatic 63, 3) := by decide +kernel
theorem d_T_nameAt_33 : decode b_T_nameAt 33 = .ok (.ifCond .ne 19, 3) := by decide +kernel
theorem d_T_nameAt_36 : decode b_T_nameAt 36 = .ok (.aload_n 0, 1) := by decide +kernel
theorem d_T_nameAt_37 : decode b_T_nameAt 37 = .ok (.getfield 9, 3) := by decide +kernel
theorem d_T_nameAt_40 : decode b_T_nameAt 40 = .ok (.iload 4, 2) := by decide +kernel
theorem d_T_nameAt_42 : decode b_T_nameAt 42 = .ok (.caload, 1) := by decide +kernel
theorem d_T_nameAt_43 : decode b_T_nameAt 43 = .ok (.invokestatic 59, 3) := by decide +kernel
theorem d_T_nameAt_46 : decode b_T_nameAt 46 = .ok (.ifCond .ne 6, 3) := by decide +kernel
theorem d_T_nameAt_49 : decode b_T_nameAt 49 = .ok (.goto 23, 3) := by decide +kernel
theorem d_T_nameAt_52 : decode b_T_nameAt 52 = .ok (.lload_n 2, 1) := by decide +kernel
theorem d_T_nameAt_53 : decode b_T_nameAt 53 = .ok (.bipush 8, 2) := by decide +kernel
theorem d_T_nameAt_55 : decode b_T_nameAt 55 = .ok (.lshl, 1) := by decide +kernel
theorem d_T_nameAt_56 : decode b_T_nameAt 56 = .ok (.aload_n 0, 1) := by decide +kernel
theorem d_T_nameAt_57 : decode b_T_nameAt 57 = .ok (.getfield 9, 3) := by decide +kernel
theorem d_T_nameAt_60 : decode b_T_nameAt 60 = .ok (.iload 4, 2) := by decide +kernel
theorem d_T_nameAt_62 : decode b_T_nameAt 62 = .ok (.caload, 1) := by decide +kernel
theorem d_T_nameAt_63 : decode b_T_nameAt 63 = .ok (.i2l, 1) := by decide +kernel
theorem d_T_nameAt_64 : decode b_T_nameAt 64 = .ok (.lor, 1) := by decide +kernel
theorem d_T_nameAt_65 : decode b_T_nameAt 65 = .ok (.lstore_n 2, 1) := by decide +kernel
theorem d_T_nameAt_66 : decode b_T_nameAt 66 = .ok (.iinc 4 1, 3) := by decide +kernel
theorem d_T_nameAt_69 : decode b_T_nameAt 69 = .ok (.goto (-64), 3) := by decide +kernel
theorem d_T_nameAt_72 : decode b_T_nameAt 72 = .ok (.lload_n 2, 1) := by decide +kernel
theorem d_T_nameAt_73 : decode b_T_nameAt 73 = .ok (.lreturn, 1) := by decide +kernel
abbrev y_T_numberAt : MethodName := ⟨"DeckFront$Tape", "numberAt", "(I)I"⟩
abbrev b_T_numberAt : ByteArray := prog_6_method_20_code
abbrev w_T_numberAt : List Cond := (Jvm.Cond.code ({ cls := "DeckFront$Tape", name := "numberAt", desc := "(I)I" } : Jvm.MethodName) prog_6_method_20_code (4 : Nat) (Option.some Jvm.ClassFile.FieldType.int)) :: wG
theorem d_T_numberAt_0 : decode b_T_numberAt 0 = .ok (.iconst 0, 1) := by decide +kernel
theorem d_T_numberAt_1 : decode b_T_numberAt 1 = .ok (.istore_n 2, 1) := by decide +kernel
theorem d_T_numberAt_2 : decode b_T_numberAt 2 = .ok (.iload_n 1, 1) := by decide +kernel
theorem d_T_numberAt_3 : decode b_T_numberAt 3 = .ok (.istore_n 3, 1) := by decide +kernel
theorem d_T_numberAt_4 : decode b_T_numberAt 4 = .ok (.iload_n 3, 1) := by decide +kernel
theorem d_T_numberAt_5 : decode b_T_numberAt 5 = .ok (.iload_n 1, 1) := by decide +kernel
theorem d_T_numberAt_6 : decode b_T_numberAt 6 = .ok (.iconst 5, 1) := by decide +kernel
theorem d_T_numberAt_7 : decode b_T_numberAt 7 = .ok (.iadd, 1) := by decide +kernel
theorem d_T_numberAt_8 : decode b_T_numberAt 8 = .ok (.if_icmp .ge 44, 3) := by decide +kernel
theorem d_T_numberAt_11 : decode b_T_numberAt 11 = .ok (.iload_n 3, 1) := by decide +kernel
theorem d_T_numberAt_12 : decode b_T_numberAt 12 = .ok (.aload_n 0, 1) := by decide +kernel
theorem d_T_numberAt_13 : decode b_T_numberAt 13 = .ok (.getfield 25, 3) := by decide +kernel
theorem d_T_numberAt_16 : decode b_T_numberAt 16 = .ok (.if_icmp .ge 36, 3) := by decide +kernel
theorem d_T_numberAt_19 : decode b_T_numberAt 19 = .ok (.aload_n 0, 1) := by decide +kernel
theorem d_T_numberAt_20 : decode b_T_numberAt 20 = .ok (.getfield 9, 3) := by decide +kernel
theorem d_T_numberAt_23 : decode b_T_numberAt 23 = .ok (.iload_n 3, 1) := by decide +kernel
theorem d_T_numberAt_24 : decode b_T_numberAt 24 = .ok (.caload, 1) := by decide +kernel
theorem d_T_numberAt_25 : decode b_T_numberAt 25 = .ok (.invokestatic 59, 3) := by decide +kernel
theorem d_T_numberAt_28 : decode b_T_numberAt 28 = .ok (.ifCond .eq 24, 3) := by decide +kernel
theorem d_T_numberAt_31 : decode b_T_numberAt 31 = .ok (.iload_n 2, 1) := by decide +kernel
theorem d_T_numberAt_32 : decode b_T_numberAt 32 = .ok (.bipush 10, 2) := by decide +kernel
theorem d_T_numberAt_34 : decode b_T_numberAt 34 = .ok (.imul, 1) := by decide +kernel
theorem d_T_numberAt_35 : decode b_T_numberAt 35 = .ok (.aload_n 0, 1) := by decide +kernel
theorem d_T_numberAt_36 : decode b_T_numberAt 36 = .ok (.getfield 9, 3) := by decide +kernel
theorem d_T_numberAt_39 : decode b_T_numberAt 39 = .ok (.iload_n 3, 1) := by decide +kernel
theorem d_T_numberAt_40 : decode b_T_numberAt 40 = .ok (.caload, 1) := by decide +kernel
theorem d_T_numberAt_41 : decode b_T_numberAt 41 = .ok (.iadd, 1) := by decide +kernel
theorem d_T_numberAt_42 : decode b_T_numberAt 42 = .ok (.bipush 48, 2) := by decide +kernel
theorem d_T_numberAt_44 : decode b_T_numberAt 44 = .ok (.isub, 1) := by decide +kernel
theorem d_T_numberAt_45 : decode b_T_numberAt 45 = .ok (.istore_n 2, 1) := by decide +kernel
theorem d_T_numberAt_46 : decode b_T_numberAt 46 = .ok (.iinc 3 1, 3) := by decide +kernel
theorem d_T_numberAt_49 : decode b_T_numberAt 49 = .ok (.goto (-45), 3) := by decide +kernel
theorem d_T_numberAt_52 : decode b_T_numberAt 52 = .ok (.iload_n 2, 1) := by decide +kernel
theorem d_T_numberAt_53 : decode b_T_numberAt 53 = .ok (.ireturn, 1) := by decide +kernel

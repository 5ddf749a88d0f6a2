abbrev y_M_thrown : MethodName := ⟨"DeckFrontModel", "thrown", "()I"⟩
abbrev b_M_thrown : ByteArray := prog_8_method_2_code
abbrev w_M_thrown : List Cond := (Jvm.Cond.code ({ cls := "DeckFrontModel", name := "thrown", desc := "()I" } : Jvm.MethodName) prog_8_method_2_code (1 : Nat) (Option.some Jvm.ClassFile.FieldType.int)) :: wG
theorem d_M_thrown_0 : decode b_M_thrown 0 = .ok (.aload_n 0, 1) := by decide +kernel
theorem d_M_thrown_1 : decode b_M_thrown 1 = .ok (.getfield 82, 3) := by decide +kernel
theorem d_M_thrown_4 : decode b_M_thrown 4 = .ok (.ireturn, 1) := by decide +kernel
abbrev y_M_isLetter : MethodName := ⟨"DeckFrontModel", "isLetter", "(I)Z"⟩
abbrev b_M_isLetter : ByteArray := prog_8_method_3_code
abbrev w_M_isLetter : List Cond := (Jvm.Cond.code ({ cls := "DeckFrontModel", name := "isLetter", desc := "(I)Z" } : Jvm.MethodName) prog_8_method_3_code (1 : Nat) (Option.some Jvm.ClassFile.FieldType.boolean)) :: wG
theorem d_M_isLetter_0 : decode b_M_isLetter 0 = .ok (.iload_n 0, 1) := by decide +kernel
theorem d_M_isLetter_1 : decode b_M_isLetter 1 = .ok (.bipush 65, 2) := by decide +kernel
theorem d_M_isLetter_3 : decode b_M_isLetter 3 = .ok (.if_icmp .lt 13, 3) := by decide +kernel
theorem d_M_isLetter_6 : decode b_M_isLetter 6 = .ok (.iload_n 0, 1) := by decide +kernel
theorem d_M_isLetter_7 : decode b_M_isLetter 7 = .ok (.bipush 90, 2) := by decide +kernel
theorem d_M_isLetter_9 : decode b_M_isLetter 9 = .ok (.if_icmp .gt 7, 3) := by decide +kernel
theorem d_M_isLetter_12 : decode b_M_isLetter 12 = .ok (.iconst 1, 1) := by decide +kernel
theorem d_M_isLetter_13 : decode b_M_isLetter 13 = .ok (.goto 4, 3) := by decide +kernel
theorem d_M_isLetter_16 : decode b_M_isLetter 16 = .ok (.iconst 0, 1) := by decide +kernel
theorem d_M_isLetter_17 : decode b_M_isLetter 17 = .ok (.ireturn, 1) := by decide +kernel
abbrev y_M_isDigit : MethodName := ⟨"DeckFrontModel", "isDigit", "(I)Z"⟩
abbrev b_M_isDigit : ByteArray := prog_8_method_4_code
abbrev w_M_isDigit : List Cond := (Jvm.Cond.code ({ cls := "DeckFrontModel", name := "isDigit", desc := "(I)Z" } : Jvm.MethodName) prog_8_method_4_code (1 : Nat) (Option.some Jvm.ClassFile.FieldType.boolean)) :: wG
theorem d_M_isDigit_0 : decode b_M_isDigit 0 = .ok (.iload_n 0, 1) := by decide +kernel
theorem d_M_isDigit_1 : decode b_M_isDigit 1 = .ok (.bipush 48, 2) := by decide +kernel
theorem d_M_isDigit_3 : decode b_M_isDigit 3 = .ok (.if_icmp .lt 13, 3) := by decide +kernel
theorem d_M_isDigit_6 : decode b_M_isDigit 6 = .ok (.iload_n 0, 1) := by decide +kernel
theorem d_M_isDigit_7 : decode b_M_isDigit 7 = .ok (.bipush 57, 2) := by decide +kernel
theorem d_M_isDigit_9 : decode b_M_isDigit 9 = .ok (.if_icmp .gt 7, 3) := by decide +kernel
theorem d_M_isDigit_12 : decode b_M_isDigit 12 = .ok (.iconst 1, 1) := by decide +kernel
theorem d_M_isDigit_13 : decode b_M_isDigit 13 = .ok (.goto 4, 3) := by decide +kernel
theorem d_M_isDigit_16 : decode b_M_isDigit 16 = .ok (.iconst 0, 1) := by decide +kernel
theorem d_M_isDigit_17 : decode b_M_isDigit 17 = .ok (.ireturn, 1) := by decide +kernel
abbrev y_M_mayStand : MethodName := ⟨"DeckFrontModel", "mayStand", "(I)Z"⟩
abbrev b_M_mayStand : ByteArray := prog_8_method_5_code
abbrev w_M_mayStand : List Cond := (Jvm.Cond.code ({ cls := "DeckFrontModel", name := "mayStand", desc := "(I)Z" } : Jvm.MethodName) prog_8_method_5_code (1 : Nat) (Option.some Jvm.ClassFile.FieldType.boolean)) :: wG
theorem d_M_mayStand_0 : decode b_M_mayStand 0 = .ok (.iload_n 0, 1) := by decide +kernel
theorem d_M_mayStand_1 : decode b_M_mayStand 1 = .ok (.invokestatic 86, 3) := by decide +kernel
theorem d_M_mayStand_4 : decode b_M_mayStand 4 = .ok (.ifCond .ne 40, 3) := by decide +kernel
theorem d_M_mayStand_7 : decode b_M_mayStand 7 = .ok (.iload_n 0, 1) := by decide +kernel
theorem d_M_mayStand_8 : decode b_M_mayStand 8 = .ok (.invokestatic 90, 3) := by decide +kernel
theorem d_M_mayStand_11 : decode b_M_mayStand 11 = .ok (.ifCond .ne 33, 3) := by decide +kernel
theorem d_M_mayStand_14 : decode b_M_mayStand 14 = .ok (.iload_n 0, 1) := by decide +kernel
theorem d_M_mayStand_15 : decode b_M_mayStand 15 = .ok (.bipush 32, 2) := by decide +kernel
theorem d_M_mayStand_17 : decode b_M_mayStand 17 = .ok (.if_icmp .eq 27, 3) := by decide +kernel
theorem d_M_mayStand_20 : decode b_M_mayStand 20 = .ok (.iload_n 0, 1) := by decide +kernel
theorem d_M_mayStand_21 : decode b_M_mayStand 21 = .ok (.bipush 61, 2) := by decide +kernel
theorem d_M_mayStand_23 : decode b_M_mayStand 23 = .ok (.if_icmp .eq 21, 3) := by decide +kernel
theorem d_M_mayStand_26 : decode b_M_mayStand 26 = .ok (.iload_n 0, 1) := by decide +kernel
theorem d_M_mayStand_27 : decode b_M_mayStand 27 = .ok (.bipush 40, 2) := by decide +kernel
theorem d_M_mayStand_29 : decode b_M_mayStand 29 = .ok (.if_icmp .lt 9, 3) := by decide +kernel
theorem d_M_mayStand_32 : decode b_M_mayStand 32 = .ok (.iload_n 0, 1) := by decide +kernel
theorem d_M_mayStand_33 : decode b_M_mayStand 33 = .ok (.bipush 47, 2) := by decide +kernel
theorem d_M_mayStand_35 : decode b_M_mayStand 35 = .ok (.if_icmp .le 9, 3) := by decide +kernel
theorem d_M_mayStand_38 : decode b_M_mayStand 38 = .ok (.iload_n 0, 1) := by decide +kernel
theorem d_M_mayStand_39 : decode b_M_mayStand 39 = .ok (.bipush 39, 2) := by decide +kernel
theorem d_M_mayStand_41 : decode b_M_mayStand 41 = .ok (.if_icmp .ne 7, 3) := by decide +kernel
theorem d_M_mayStand_44 : decode b_M_mayStand 44 = .ok (.iconst 1, 1) := by decide +kernel
theorem d_M_mayStand_45 : decode b_M_mayStand 45 = .ok (.goto 4, 3) := by decide +kernel
theorem d_M_mayStand_48 : decode b_M_mayStand 48 = .ok (.iconst 0, 1) := by decide +kernel
theorem d_M_mayStand_49 : decode b_M_mayStand 49 = .ok (.ireturn, 1) := by decide +kernel
abbrev y_M_write : MethodName := ⟨"DeckFrontModel", "write", "(J)Z"⟩
abbrev b_M_write : ByteArray := prog_8_method_6_code
abbrev w_M_write : List Cond := (Jvm.Cond.code ({ cls := "DeckFrontModel", name := "write", desc := "(J)Z" } : Jvm.MethodName) prog_8_method_6_code (6 : Nat) (Option.some Jvm.ClassFile.FieldType.boolean)) :: wG
theorem d_M_write_0 : decode b_M_write 0 = .ok (.aload_n 0, 1) := by decide +kernel
theorem d_M_write_1 : decode b_M_write 1 = .ok (.iconst 0, 1) := by decide +kernel
theorem d_M_write_2 : decode b_M_write 2 = .ok (.putfield 82, 3) := by decide +kernel
theorem d_M_write_5 : decode b_M_write 5 = .ok (.iconst 0, 1) := by decide +kernel
theorem d_M_write_6 : decode b_M_write 6 = .ok (.istore_n 3, 1) := by decide +kernel
theorem d_M_write_7 : decode b_M_write 7 = .ok (.bipush 7, 2) := by decide +kernel
theorem d_M_write_9 : decode b_M_write 9 = .ok (.istore 4, 2) := by decide +kernel
theorem d_M_write_11 : decode b_M_write 11 = .ok (.iload 4, 2) := by decide +kernel
theorem d_M_write_13 : decode b_M_write 13 = .ok (.ifCond .lt 51, 3) := by decide +kernel
theorem d_M_write_16 : decode b_M_write 16 = .ok (.lload_n 1, 1) := by decide +kernel
theorem d_M_write_17 : decode b_M_write 17 = .ok (.bipush 8, 2) := by decide +kernel
theorem d_M_write_19 : decode b_M_write 19 = .ok (.iload 4, 2) := by decide +kernel
theorem d_M_write_21 : decode b_M_write 21 = .ok (.imul, 1) := by decide +kernel
theorem d_M_write_22 : decode b_M_write 22 = .ok (.lushr, 1) := by decide +kernel
theorem d_M_write_23 : decode b_M_write 23 = .ok (.l2i, 1) := by decide +kernel
theorem d_M_write_24 : decode b_M_write 24 = .ok (.sipush 255, 3) := by decide +kernel
theorem d_M_write_27 : decode b_M_write 27 = .ok (.iand, 1) := by decide +kernel
theorem d_M_write_28 : decode b_M_write 28 = .ok (.istore 5, 2) := by decide +kernel
theorem d_M_write_30 : decode b_M_write 30 = .ok (.iload 5, 2) := by decide +kernel
theorem d_M_write_32 : decode b_M_write 32 = .ok (.ifCond .eq 13, 3) := by decide +kernel
theorem d_M_write_35 : decode b_M_write 35 = .ok (.iload 5, 2) := by decide +kernel
theorem d_M_write_37 : decode b_M_write 37 = .ok (.invokestatic 93, 3) := by decide +kernel
theorem d_M_write_40 : decode b_M_write 40 = .ok (.ifCond .ne 5, 3) := by decide +kernel
theorem d_M_write_43 : decode b_M_write 43 = .ok (.iconst 0, 1) := by decide +kernel
theorem d_M_write_44 : decode b_M_write 44 = .ok (.ireturn, 1) := by decide +kernel
theorem d_M_write_45 : decode b_M_write 45 = .ok (.iload 5, 2) := by decide +kernel
theorem d_M_write_47 : decode b_M_write 47 = .ok (.ifCond .eq 9, 3) := by decide +kernel
theorem d_M_write_50 : decode b_M_write 50 = .ok (.iload_n 3, 1) := by decide +kernel
theorem d_M_write_51 : decode b_M_write 51 = .ok (.iconst 1, 1) := by decide +kernel
theorem d_M_write_52 : decode b_M_write 52 = .ok (.iadd, 1) := by decide +kernel
theorem d_M_write_53 : decode b_M_write 53 = .ok (.goto 4, 3) := by decide +kernel
theorem d_M_write_56 : decode b_M_write 56 = .ok (.iload_n 3, 1) := by decide +kernel
theorem d_M_write_57 : decode b_M_write 57 = .ok (.istore_n 3, 1) := by decide +kernel
theorem d_M_write_58 : decode b_M_write 58 = .ok (.iinc 4 (-1), 3) := by decide +kernel
theorem d_M_write_61 : decode b_M_write 61 = .ok (.goto (-50), 3) := by decide +kernel
theorem d_M_write_64 : decode b_M_write 64 = .ok (.aload_n 0, 1) := by decide +kernel
theorem d_M_write_65 : decode b_M_write 65 = .ok (.getfield 96, 3) := by decide +kernel
theorem d_M_write_68 : decode b_M_write 68 = .ok (.iload_n 3, 1) := by decide +kernel
theorem d_M_write_69 : decode b_M_write 69 = .ok (.iadd, 1) := by decide +kernel
theorem d_M_write_70 : decode b_M_write 70 = .ok (.bipush 72, 2) := by decide +kernel
theorem d_M_write_72 : decode b_M_write 72 = .ok (.if_icmp .le 5, 3) := by decide +kernel
theorem d_M_write_75 : decode b_M_write 75 = .ok (.iconst 0, 1) := by decide +kernel
theorem d_M_write_76 : decode b_M_write 76 = .ok (.ireturn, 1) := by decide +kernel
theorem d_M_write_77 : decode b_M_write 77 = .ok (.bipush 7, 2) := by decide +kernel
theorem d_M_write_79 : decode b_M_write 79 = .ok (.istore 4, 2) := by decide +kernel
theorem d_M_write_81 : decode b_M_write 81 = .ok (.iload 4, 2) := by decide +kernel
theorem d_M_write_83 : decode b_M_write 83 = .ok (.ifCond .lt 50, 3) := by decide +kernel
theorem d_M_write_86 : decode b_M_write 86 = .ok (.lload_n 1, 1) := by decide +kernel
theorem d_M_write_87 : decode b_M_write 87 = .ok (.bipush 8, 2) := by decide +kernel
theorem d_M_write_89 : decode b_M_write 89 = .ok (.iload 4, 2) := by decide +kernel
theorem d_M_write_91 : decode b_M_write 91 = .ok (.imul, 1) := by decide +kernel
theorem d_M_write_92 : decode b_M_write 92 = .ok (.lushr, 1) := by decide +kernel
theorem d_M_write_93 : decode b_M_write 93 = .ok (.l2i, 1) := by decide +kernel
theorem d_M_write_94 : decode b_M_write 94 = .ok (.sipush 255, 3) := by decide +kernel
theorem d_M_write_97 : decode b_M_write 97 = .ok (.iand, 1) := by decide +kernel
theorem d_M_write_98 : decode b_M_write 98 = .ok (.istore 5, 2) := by decide +kernel
theorem d_M_write_100 : decode b_M_write 100 = .ok (.iload 5, 2) := by decide +kernel
theorem d_M_write_102 : decode b_M_write 102 = .ok (.ifCond .eq 25, 3) := by decide +kernel
theorem d_M_write_105 : decode b_M_write 105 = .ok (.aload_n 0, 1) := by decide +kernel
theorem d_M_write_106 : decode b_M_write 106 = .ok (.getfield 7, 3) := by decide +kernel
theorem d_M_write_109 : decode b_M_write 109 = .ok (.aload_n 0, 1) := by decide +kernel
theorem d_M_write_110 : decode b_M_write 110 = .ok (.getfield 96, 3) := by decide +kernel
theorem d_M_write_113 : decode b_M_write 113 = .ok (.iload 5, 2) := by decide +kernel
theorem d_M_write_115 : decode b_M_write 115 = .ok (.i2c, 1) := by decide +kernel
theorem d_M_write_116 : decode b_M_write 116 = .ok (.castore, 1) := by decide +kernel
theorem d_M_write_117 : decode b_M_write 117 = .ok (.aload_n 0, 1) := by decide +kernel
theorem d_M_write_118 : decode b_M_write 118 = .ok (.dup, 1) := by decide +kernel
theorem d_M_write_119 : decode b_M_write 119 = .ok (.getfield 96, 3) := by decide +kernel
theorem d_M_write_122 : decode b_M_write 122 = .ok (.iconst 1, 1) := by decide +kernel
theorem d_M_write_123 : decode b_M_write 123 = .ok (.iadd, 1) := by decide +kernel
theorem d_M_write_124 : decode b_M_write 124 = .ok (.putfield 96, 3) := by decide +kernel
theorem d_M_write_127 : decode b_M_write 127 = .ok (.iinc 4 (-1), 3) := by decide +kernel
theorem d_M_write_130 : decode b_M_write 130 = .ok (.goto (-49), 3) := by decide +kernel
theorem d_M_write_133 : decode b_M_write 133 = .ok (.iconst 1, 1) := by decide +kernel
theorem d_M_write_134 : decode b_M_write 134 = .ok (.ireturn, 1) := by decide +kernel
abbrev y_M_isComment : MethodName := ⟨"DeckFrontModel", "isComment", "()Z"⟩
abbrev b_M_isComment : ByteArray := prog_8_method_7_code
abbrev w_M_isComment : List Cond := (Jvm.Cond.code ({ cls := "DeckFrontModel", name := "isComment", desc := "()Z" } : Jvm.MethodName) prog_8_method_7_code (3 : Nat) (Option.some Jvm.ClassFile.FieldType.boolean)) :: wG
theorem d_M_isComment_0 : decode b_M_isComment 0 = .ok (.iconst 1, 1) := by decide +kernel
theorem d_M_isComment_1 : decode b_M_isComment 1 = .ok (.istore_n 1, 1) := by decide +kernel
theorem d_M_isComment_2 : decode b_M_isComment 2 = .ok (.iconst 0, 1) := by decide +kernel
theorem d_M_isComment_3 : decode b_M_isComment 3 = .ok (.istore_n 2, 1) := by decide +kernel
theorem d_M_isComment_4 : decode b_M_isComment 4 = .ok (.iload_n 2, 1) := by decide +kernel
theorem d_M_isComment_5 : decode b_M_isComment 5 = .ok (.aload_n 0, 1) := by decide +kernel
theorem d_M_isComment_6 : decode b_M_isComment 6 = .ok (.getfield 96, 3) := by decide +kernel
theorem d_M_isComment_9 : decode b_M_isComment 9 = .ok (.if_icmp .ge 30, 3) := by decide +kernel
theorem d_M_isComment_12 : decode b_M_isComment 12 = .ok (.iload_n 1, 1) := by decide +kernel
theorem d_M_isComment_13 : decode b_M_isComment 13 = .ok (.ifCond .eq 18, 3) := by decide +kernel
theorem d_M_isComment_16 : decode b_M_isComment 16 = .ok (.aload_n 0, 1) := by decide +kernel
theorem d_M_isComment_17 : decode b_M_isComment 17 = .ok (.getfield 7, 3) := by decide +kernel
theorem d_M_isComment_20 : decode b_M_isComment 20 = .ok (.iload_n 2, 1) := by decide +kernel
theorem d_M_isComment_21 : decode b_M_isComment 21 = .ok (.caload, 1) := by decide +kernel
theorem d_M_isComment_22 : decode b_M_isComment 22 = .ok (.bipush 32, 2) := by decide +kernel
theorem d_M_isComment_24 : decode b_M_isComment 24 = .ok (.if_icmp .ne 7, 3) := by decide +kernel
theorem d_M_isComment_27 : decode b_M_isComment 27 = .ok (.iconst 1, 1) := by decide +kernel
theorem d_M_isComment_28 : decode b_M_isComment 28 = .ok (.goto 4, 3) := by decide +kernel
theorem d_M_isComment_31 : decode b_M_isComment 31 = .ok (.iconst 0, 1) := by decide +kernel
theorem d_M_isComment_32 : decode b_M_isComment 32 = .ok (.istore_n 1, 1) := by decide +kernel
theorem d_M_isComment_33 : decode b_M_isComment 33 = .ok (.iinc 2 1, 3) := by decide +kernel
theorem d_M_isComment_36 : decode b_M_isComment 36 = .ok (.goto (-32), 3) := by decide +kernel
theorem d_M_isComment_39 : decode b_M_isComment 39 = .ok (.iload_n 1, 1) := by decide +kernel
theorem d_M_isComment_40 : decode b_M_isComment 40 = .ok (.ifCond .ne 25, 3) := by decide +kernel
theorem d_M_isComment_43 : decode b_M_isComment 43 = .ok (.aload_n 0, 1) := by decide +kernel
theorem d_M_isComment_44 : decode b_M_isComment 44 = .ok (.getfield 7, 3) := by decide +kernel
theorem d_M_isComment_47 : decode b_M_isComment 47 = .ok (.iconst 0, 1) := by decide +kernel
theorem d_M_isComment_48 : decode b_M_isComment 48 = .ok (.caload, 1) := by decide +kernel
theorem d_M_isComment_49 : decode b_M_isComment 49 = .ok (.bipush 67, 2) := by decide +kernel
theorem d_M_isComment_51 : decode b_M_isComment 51 = .ok (.if_icmp .eq 14, 3) := by decide +kernel
theorem d_M_isComment_54 : decode b_M_isComment 54 = .ok (.aload_n 0, 1) := by decide +kernel
theorem d_M_isComment_55 : decode b_M_isComment 55 = .ok (.getfield 7, 3) := by decide +kernel
theorem d_M_isComment_58 : decode b_M_isComment 58 = .ok (.iconst 0, 1) := by decide +kernel
theorem d_M_isComment_59 : decode b_M_isComment 59 = .ok (.caload, 1) := by decide +kernel
theorem d_M_isComment_60 : decode b_M_isComment 60 = .ok (.bipush 42, 2) := by decide +kernel
theorem d_M_isComment_62 : decode b_M_isComment 62 = .ok (.if_icmp .ne 7, 3) := by decide +kernel
theorem d_M_isComment_65 : decode b_M_isComment 65 = .ok (.iconst 1, 1) := by decide +kernel
theorem d_M_isComment_66 : decode b_M_isComment 66 = .ok (.goto 4, 3) := by decide +kernel
theorem d_M_isComment_69 : decode b_M_isComment 69 = .ok (.iconst 0, 1) := by decide +kernel
theorem d_M_isComment_70 : decode b_M_isComment 70 = .ok (.ireturn, 1) := by decide +kernel
abbrev y_M_inQuote : MethodName := ⟨"DeckFrontModel", "inQuote", "(I)Z"⟩
abbrev b_M_inQuote : ByteArray := prog_8_method_8_code
abbrev w_M_inQuote : List Cond := (Jvm.Cond.code ({ cls := "DeckFrontModel", name := "inQuote", desc := "(I)Z" } : Jvm.MethodName) prog_8_method_8_code (4 : Nat) (Option.some Jvm.ClassFile.FieldType.boolean)) :: wG
theorem d_M_inQuote_0 : decode b_M_inQuote 0 = .ok (.iconst 0, 1) := by decide +kernel
theorem d_M_inQuote_1 : decode b_M_inQuote 1 = .ok (.istore_n 2, 1) := by decide +kernel
theorem d_M_inQuote_2 : decode b_M_inQuote 2 = .ok (.iconst 0, 1) := by decide +kernel
theorem d_M_inQuote_3 : decode b_M_inQuote 3 = .ok (.istore_n 3, 1) := by decide +kernel
theorem d_M_inQuote_4 : decode b_M_inQuote 4 = .ok (.iload_n 3, 1) := by decide +kernel
theorem d_M_inQuote_5 : decode b_M_inQuote 5 = .ok (.aload_n 0, 1) := by decide +kernel
theorem d_M_inQuote_6 : decode b_M_inQuote 6 = .ok (.getfield 17, 3) := by decide +kernel
theorem d_M_inQuote_9 : decode b_M_inQuote 9 = .ok (.iload_n 1, 1) := by decide +kernel
theorem d_M_inQuote_10 : decode b_M_inQuote 10 = .ok (.iaload, 1) := by decide +kernel
theorem d_M_inQuote_11 : decode b_M_inQuote 11 = .ok (.if_icmp .ge 39, 3) := by decide +kernel
theorem d_M_inQuote_14 : decode b_M_inQuote 14 = .ok (.aload_n 0, 1) := by decide +kernel
theorem d_M_inQuote_15 : decode b_M_inQuote 15 = .ok (.getfield 20, 3) := by decide +kernel
theorem d_M_inQuote_18 : decode b_M_inQuote 18 = .ok (.bipush 80, 2) := by decide +kernel
theorem d_M_inQuote_20 : decode b_M_inQuote 20 = .ok (.iload_n 1, 1) := by decide +kernel
theorem d_M_inQuote_21 : decode b_M_inQuote 21 = .ok (.imul, 1) := by decide +kernel
theorem d_M_inQuote_22 : decode b_M_inQuote 22 = .ok (.iload_n 3, 1) := by decide +kernel
theorem d_M_inQuote_23 : decode b_M_inQuote 23 = .ok (.iadd, 1) := by decide +kernel
theorem d_M_inQuote_24 : decode b_M_inQuote 24 = .ok (.caload, 1) := by decide +kernel
theorem d_M_inQuote_25 : decode b_M_inQuote 25 = .ok (.bipush 39, 2) := by decide +kernel
theorem d_M_inQuote_27 : decode b_M_inQuote 27 = .ok (.if_icmp .ne 15, 3) := by decide +kernel
theorem d_M_inQuote_30 : decode b_M_inQuote 30 = .ok (.iload_n 2, 1) := by decide +kernel
theorem d_M_inQuote_31 : decode b_M_inQuote 31 = .ok (.ifCond .ne 7, 3) := by decide +kernel
theorem d_M_inQuote_34 : decode b_M_inQuote 34 = .ok (.iconst 1, 1) := by decide +kernel
theorem d_M_inQuote_35 : decode b_M_inQuote 35 = .ok (.goto 8, 3) := by decide +kernel
theorem d_M_inQuote_38 : decode b_M_inQuote 38 = .ok (.iconst 0, 1) := by decide +kernel
theorem d_M_inQuote_39 : decode b_M_inQuote 39 = .ok (.goto 4, 3) := by decide +kernel
theorem d_M_inQuote_42 : decode b_M_inQuote 42 = .ok (.iload_n 2, 1) := by decide +kernel
theorem d_M_inQuote_43 : decode b_M_inQuote 43 = .ok (.istore_n 2, 1) := by decide +kernel
theorem d_M_inQuote_44 : decode b_M_inQuote 44 = .ok (.iinc 3 1, 3) := by decide +kernel
theorem d_M_inQuote_47 : decode b_M_inQuote 47 = .ok (.goto (-43), 3) := by decide +kernel
theorem d_M_inQuote_50 : decode b_M_inQuote 50 = .ok (.iload_n 2, 1) := by decide +kernel
theorem d_M_inQuote_51 : decode b_M_inQuote 51 = .ok (.ireturn, 1) := by decide +kernel
abbrev y_M_joined : MethodName := ⟨"DeckFrontModel", "joined", "(I)I"⟩
abbrev b_M_joined : ByteArray := prog_8_method_9_code
abbrev w_M_joined : List Cond := (Jvm.Cond.code ({ cls := "DeckFrontModel", name := "joined", desc := "(I)I" } : Jvm.MethodName) prog_8_method_9_code (10 : Nat) (Option.some Jvm.ClassFile.FieldType.int)) :: wG
theorem d_M_joined_0 : decode b_M_joined 0 = .ok (.iconst 1, 1) := by decide +kernel
theorem d_M_joined_1 : decode b_M_joined 1 = .ok (.istore_n 2, 1) := by decide +kernel
theorem d_M_joined_2 : decode b_M_joined 2 = .ok (.iconst 0, 1) := by decide +kernel
theorem d_M_joined_3 : decode b_M_joined 3 = .ok (.istore_n 3, 1) := by decide +kernel
theorem d_M_joined_4 : decode b_M_joined 4 = .ok (.iconst 0, 1) := by decide +kernel
theorem d_M_joined_5 : decode b_M_joined 5 = .ok (.istore 4, 2) := by decide +kernel
theorem d_M_joined_7 : decode b_M_joined 7 = .ok (.iconst 0, 1) := by decide +kernel
theorem d_M_joined_8 : decode b_M_joined 8 = .ok (.istore 5, 2) := by decide +kernel
theorem d_M_joined_10 : decode b_M_joined 10 = .ok (.iload 5, 2) := by decide +kernel
theorem d_M_joined_12 : decode b_M_joined 12 = .ok (.iconst 5, 1) := by decide +kernel
theorem d_M_joined_13 : decode b_M_joined 13 = .ok (.if_icmp .ge 97, 3) := by decide +kernel
theorem d_M_joined_16 : decode b_M_joined 16 = .ok (.iload 5, 2) := by decide +kernel
theorem d_M_joined_18 : decode b_M_joined 18 = .ok (.iload_n 1, 1) := by decide +kernel
theorem d_M_joined_19 : decode b_M_joined 19 = .ok (.if_icmp .ge 91, 3) := by decide +kernel
theorem d_M_joined_22 : decode b_M_joined 22 = .ok (.aload_n 0, 1) := by decide +kernel
theorem d_M_joined_23 : decode b_M_joined 23 = .ok (.getfield 7, 3) := by decide +kernel
theorem d_M_joined_26 : decode b_M_joined 26 = .ok (.iload 5, 2) := by decide +kernel
theorem d_M_joined_28 : decode b_M_joined 28 = .ok (.caload, 1) := by decide +kernel
theorem d_M_joined_29 : decode b_M_joined 29 = .ok (.invokestatic 90, 3) := by decide +kernel
theorem d_M_joined_32 : decode b_M_joined 32 = .ok (.istore 6, 2) := by decide +kernel
theorem d_M_joined_34 : decode b_M_joined 34 = .ok (.iload_n 2, 1) := by decide +kernel
theorem d_M_joined_35 : decode b_M_joined 35 = .ok (.ifCond .eq 24, 3) := by decide +kernel
theorem d_M_joined_38 : decode b_M_joined 38 = .ok (.iload 6, 2) := by decide +kernel
theorem d_M_joined_40 : decode b_M_joined 40 = .ok (.ifCond .ne 15, 3) := by decide +kernel
theorem d_M_joined_43 : decode b_M_joined 43 = .ok (.aload_n 0, 1) := by decide +kernel
theorem d_M_joined_44 : decode b_M_joined 44 = .ok (.getfield 7, 3) := by decide +kernel
theorem d_M_joined_47 : decode b_M_joined 47 = .ok (.iload 5, 2) := by decide +kernel
theorem d_M_joined_49 : decode b_M_joined 49 = .ok (.caload, 1) := by decide +kernel
theorem d_M_joined_50 : decode b_M_joined 50 = .ok (.bipush 32, 2) := by decide +kernel
theorem d_M_joined_52 : decode b_M_joined 52 = .ok (.if_icmp .ne 7, 3) := by decide +kernel
theorem d_M_joined_55 : decode b_M_joined 55 = .ok (.iconst 1, 1) := by decide +kernel
theorem d_M_joined_56 : decode b_M_joined 56 = .ok (.goto 4, 3) := by decide +kernel
theorem d_M_joined_59 : decode b_M_joined 59 = .ok (.iconst 0, 1) := by decide +kernel
theorem d_M_joined_60 : decode b_M_joined 60 = .ok (.istore_n 2, 1) := by decide +kernel
theorem d_M_joined_61 : decode b_M_joined 61 = .ok (.iload_n 3, 1) := by decide +kernel
theorem d_M_joined_62 : decode b_M_joined 62 = .ok (.ifCond .ne 8, 3) := by decide +kernel
theorem d_M_joined_65 : decode b_M_joined 65 = .ok (.iload 6, 2) := by decide +kernel
theorem d_M_joined_67 : decode b_M_joined 67 = .ok (.ifCond .eq 7, 3) := by decide +kernel
theorem d_M_joined_70 : decode b_M_joined 70 = .ok (.iconst 1, 1) := by decide +kernel
theorem d_M_joined_71 : decode b_M_joined 71 = .ok (.goto 4, 3) := by decide +kernel
theorem d_M_joined_74 : decode b_M_joined 74 = .ok (.iconst 0, 1) := by decide +kernel
theorem d_M_joined_75 : decode b_M_joined 75 = .ok (.istore_n 3, 1) := by decide +kernel
theorem d_M_joined_76 : decode b_M_joined 76 = .ok (.iload 6, 2) := by decide +kernel
theorem d_M_joined_78 : decode b_M_joined 78 = .ok (.ifCond .eq 22, 3) := by decide +kernel
theorem d_M_joined_81 : decode b_M_joined 81 = .ok (.bipush 10, 2) := by decide +kernel
theorem d_M_joined_83 : decode b_M_joined 83 = .ok (.iload 4, 2) := by decide +kernel
theorem d_M_joined_85 : decode b_M_joined 85 = .ok (.imul, 1) := by decide +kernel
theorem d_M_joined_86 : decode b_M_joined 86 = .ok (.aload_n 0, 1) := by decide +kernel
theorem d_M_joined_87 : decode b_M_joined 87 = .ok (.getfield 7, 3) := by decide +kernel
theorem d_M_joined_90 : decode b_M_joined 90 = .ok (.iload 5, 2) := by decide +kernel
theorem d_M_joined_92 : decode b_M_joined 92 = .ok (.caload, 1) := by decide +kernel
theorem d_M_joined_93 : decode b_M_joined 93 = .ok (.iadd, 1) := by decide +kernel
theorem d_M_joined_94 : decode b_M_joined 94 = .ok (.bipush 48, 2) := by decide +kernel
theorem d_M_joined_96 : decode b_M_joined 96 = .ok (.isub, 1) := by decide +kernel
theorem d_M_joined_97 : decode b_M_joined 97 = .ok (.goto 5, 3) := by decide +kernel
theorem d_M_joined_100 : decode b_M_joined 100 = .ok (.iload 4, 2) := by decide +kernel
theorem d_M_joined_102 : decode b_M_joined 102 = .ok (.istore 4, 2) := by decide +kernel
theorem d_M_joined_104 : decode b_M_joined 104 = .ok (.iinc 5 1, 3) := by decide +kernel
theorem d_M_joined_107 : decode b_M_joined 107 = .ok (.goto (-97), 3) := by decide +kernel
theorem d_M_joined_110 : decode b_M_joined 110 = .ok (.iload_n 1, 1) := by decide +kernel
theorem d_M_joined_111 : decode b_M_joined 111 = .ok (.iconst 5, 1) := by decide +kernel
theorem d_M_joined_112 : decode b_M_joined 112 = .ok (.if_icmp .le 29, 3) := by decide +kernel
theorem d_M_joined_115 : decode b_M_joined 115 = .ok (.aload_n 0, 1) := by decide +kernel
theorem d_M_joined_116 : decode b_M_joined 116 = .ok (.getfield 7, 3) := by decide +kernel
theorem d_M_joined_119 : decode b_M_joined 119 = .ok (.iconst 5, 1) := by decide +kernel
theorem d_M_joined_120 : decode b_M_joined 120 = .ok (.caload, 1) := by decide +kernel
theorem d_M_joined_121 : decode b_M_joined 121 = .ok (.bipush 32, 2) := by decide +kernel
theorem d_M_joined_123 : decode b_M_joined 123 = .ok (.if_icmp .eq 18, 3) := by decide +kernel
theorem d_M_joined_126 : decode b_M_joined 126 = .ok (.aload_n 0, 1) := by decide +kernel
theorem d_M_joined_127 : decode b_M_joined 127 = .ok (.getfield 7, 3) := by decide +kernel
theorem d_M_joined_130 : decode b_M_joined 130 = .ok (.iconst 5, 1) := by decide +kernel
theorem d_M_joined_131 : decode b_M_joined 131 = .ok (.caload, 1) := by decide +kernel
theorem d_M_joined_132 : decode b_M_joined 132 = .ok (.bipush 48, 2) := by decide +kernel
theorem d_M_joined_134 : decode b_M_joined 134 = .ok (.if_icmp .eq 7, 3) := by decide +kernel
theorem d_M_joined_137 : decode b_M_joined 137 = .ok (.iconst 1, 1) := by decide +kernel
theorem d_M_joined_138 : decode b_M_joined 138 = .ok (.goto 4, 3) := by decide +kernel
theorem d_M_joined_141 : decode b_M_joined 141 = .ok (.iconst 0, 1) := by decide +kernel
theorem d_M_joined_142 : decode b_M_joined 142 = .ok (.istore 5, 2) := by decide +kernel
theorem d_M_joined_144 : decode b_M_joined 144 = .ok (.iload_n 2, 1) := by decide +kernel
theorem d_M_joined_145 : decode b_M_joined 145 = .ok (.ifCond .eq 12, 3) := by decide +kernel
theorem d_M_joined_148 : decode b_M_joined 148 = .ok (.iload 5, 2) := by decide +kernel
theorem d_M_joined_150 : decode b_M_joined 150 = .ok (.ifCond .eq 14, 3) := by decide +kernel
theorem d_M_joined_153 : decode b_M_joined 153 = .ok (.iload_n 3, 1) := by decide +kernel
theorem d_M_joined_154 : decode b_M_joined 154 = .ok (.ifCond .eq 10, 3) := by decide +kernel
theorem d_M_joined_157 : decode b_M_joined 157 = .ok (.aload_n 0, 1) := by decide +kernel
theorem d_M_joined_158 : decode b_M_joined 158 = .ok (.iconst 1, 1) := by decide +kernel
theorem d_M_joined_159 : decode b_M_joined 159 = .ok (.putfield 82, 3) := by decide +kernel
theorem d_M_joined_162 : decode b_M_joined 162 = .ok (.iconst 0, 1) := by decide +kernel
theorem d_M_joined_163 : decode b_M_joined 163 = .ok (.ireturn, 1) := by decide +kernel
theorem d_M_joined_164 : decode b_M_joined 164 = .ok (.iload 5, 2) := by decide +kernel
theorem d_M_joined_166 : decode b_M_joined 166 = .ok (.ifCond .eq 12, 3) := by decide +kernel
theorem d_M_joined_169 : decode b_M_joined 169 = .ok (.aload_n 0, 1) := by decide +kernel
theorem d_M_joined_170 : decode b_M_joined 170 = .ok (.getfield 99, 3) := by decide +kernel
theorem d_M_joined_173 : decode b_M_joined 173 = .ok (.iconst 1, 1) := by decide +kernel
theorem d_M_joined_174 : decode b_M_joined 174 = .ok (.isub, 1) := by decide +kernel
theorem d_M_joined_175 : decode b_M_joined 175 = .ok (.goto 7, 3) := by decide +kernel
theorem d_M_joined_178 : decode b_M_joined 178 = .ok (.aload_n 0, 1) := by decide +kernel
theorem d_M_joined_179 : decode b_M_joined 179 = .ok (.getfield 99, 3) := by decide +kernel
theorem d_M_joined_182 : decode b_M_joined 182 = .ok (.istore 6, 2) := by decide +kernel
theorem d_M_joined_184 : decode b_M_joined 184 = .ok (.iload 6, 2) := by decide +kernel
theorem d_M_joined_186 : decode b_M_joined 186 = .ok (.ifCond .lt 10, 3) := by decide +kernel
theorem d_M_joined_189 : decode b_M_joined 189 = .ok (.iload 6, 2) := by decide +kernel
theorem d_M_joined_191 : decode b_M_joined 191 = .ok (.bipush 24, 2) := by decide +kernel
theorem d_M_joined_193 : decode b_M_joined 193 = .ok (.if_icmp .ne 10, 3) := by decide +kernel
theorem d_M_joined_196 : decode b_M_joined 196 = .ok (.aload_n 0, 1) := by decide +kernel
theorem d_M_joined_197 : decode b_M_joined 197 = .ok (.iconst 2, 1) := by decide +kernel
theorem d_M_joined_198 : decode b_M_joined 198 = .ok (.putfield 82, 3) := by decide +kernel
theorem d_M_joined_201 : decode b_M_joined 201 = .ok (.iconst 0, 1) := by decide +kernel
theorem d_M_joined_202 : decode b_M_joined 202 = .ok (.ireturn, 1) := by decide +kernel
theorem d_M_joined_203 : decode b_M_joined 203 = .ok (.iload 5, 2) := by decide +kernel
theorem d_M_joined_205 : decode b_M_joined 205 = .ok (.ifCond .eq 13, 3) := by decide +kernel
theorem d_M_joined_208 : decode b_M_joined 208 = .ok (.aload_n 0, 1) := by decide +kernel
theorem d_M_joined_209 : decode b_M_joined 209 = .ok (.getfield 17, 3) := by decide +kernel
theorem d_M_joined_212 : decode b_M_joined 212 = .ok (.iload 6, 2) := by decide +kernel
theorem d_M_joined_214 : decode b_M_joined 214 = .ok (.iaload, 1) := by decide +kernel
theorem d_M_joined_215 : decode b_M_joined 215 = .ok (.goto 4, 3) := by decide +kernel
theorem d_M_joined_218 : decode b_M_joined 218 = .ok (.iconst 0, 1) := by decide +kernel
theorem d_M_joined_219 : decode b_M_joined 219 = .ok (.istore 7, 2) := by decide +kernel
theorem d_M_joined_221 : decode b_M_joined 221 = .ok (.iload 5, 2) := by decide +kernel
theorem d_M_joined_223 : decode b_M_joined 223 = .ok (.ifCond .eq 16, 3) := by decide +kernel
theorem d_M_joined_226 : decode b_M_joined 226 = .ok (.aload_n 0, 1) := by decide +kernel
theorem d_M_joined_227 : decode b_M_joined 227 = .ok (.iload 6, 2) := by decide +kernel
theorem d_M_joined_229 : decode b_M_joined 229 = .ok (.invokevirtual 102, 3) := by decide +kernel
theorem d_M_joined_232 : decode b_M_joined 232 = .ok (.ifCond .eq 7, 3) := by decide +kernel
theorem d_M_joined_235 : decode b_M_joined 235 = .ok (.iconst 1, 1) := by decide +kernel
theorem d_M_joined_236 : decode b_M_joined 236 = .ok (.goto 4, 3) := by decide +kernel
theorem d_M_joined_239 : decode b_M_joined 239 = .ok (.iconst 0, 1) := by decide +kernel
theorem d_M_joined_240 : decode b_M_joined 240 = .ok (.istore 8, 2) := by decide +kernel
theorem d_M_joined_242 : decode b_M_joined 242 = .ok (.bipush 6, 2) := by decide +kernel
theorem d_M_joined_244 : decode b_M_joined 244 = .ok (.istore 9, 2) := by decide +kernel
theorem d_M_joined_246 : decode b_M_joined 246 = .ok (.iload 9, 2) := by decide +kernel
theorem d_M_joined_248 : decode b_M_joined 248 = .ok (.iload_n 1, 1) := by decide +kernel
theorem d_M_joined_249 : decode b_M_joined 249 = .ok (.if_icmp .ge 85, 3) := by decide +kernel
theorem d_M_joined_252 : decode b_M_joined 252 = .ok (.aload_n 0, 1) := by decide +kernel
theorem d_M_joined_253 : decode b_M_joined 253 = .ok (.getfield 7, 3) := by decide +kernel
theorem d_M_joined_256 : decode b_M_joined 256 = .ok (.iload 9, 2) := by decide +kernel
theorem d_M_joined_258 : decode b_M_joined 258 = .ok (.caload, 1) := by decide +kernel
theorem d_M_joined_259 : decode b_M_joined 259 = .ok (.bipush 32, 2) := by decide +kernel
theorem d_M_joined_261 : decode b_M_joined 261 = .ok (.if_icmp .ne 8, 3) := by decide +kernel
theorem d_M_joined_264 : decode b_M_joined 264 = .ok (.iload 8, 2) := by decide +kernel
theorem d_M_joined_266 : decode b_M_joined 266 = .ok (.ifCond .eq 62, 3) := by decide +kernel
theorem d_M_joined_269 : decode b_M_joined 269 = .ok (.iload 7, 2) := by decide +kernel
theorem d_M_joined_271 : decode b_M_joined 271 = .ok (.bipush 80, 2) := by decide +kernel
theorem d_M_joined_273 : decode b_M_joined 273 = .ok (.if_icmp .ge 23, 3) := by decide +kernel
theorem d_M_joined_276 : decode b_M_joined 276 = .ok (.aload_n 0, 1) := by decide +kernel
theorem d_M_joined_277 : decode b_M_joined 277 = .ok (.getfield 20, 3) := by decide +kernel
theorem d_M_joined_280 : decode b_M_joined 280 = .ok (.bipush 80, 2) := by decide +kernel
theorem d_M_joined_282 : decode b_M_joined 282 = .ok (.iload 6, 2) := by decide +kernel
theorem d_M_joined_284 : decode b_M_joined 284 = .ok (.imul, 1) := by decide +kernel
theorem d_M_joined_285 : decode b_M_joined 285 = .ok (.iload 7, 2) := by decide +kernel
theorem d_M_joined_287 : decode b_M_joined 287 = .ok (.iadd, 1) := by decide +kernel
theorem d_M_joined_288 : decode b_M_joined 288 = .ok (.aload_n 0, 1) := by decide +kernel
theorem d_M_joined_289 : decode b_M_joined 289 = .ok (.getfield 7, 3) := by decide +kernel
theorem d_M_joined_292 : decode b_M_joined 292 = .ok (.iload 9, 2) := by decide +kernel
theorem d_M_joined_294 : decode b_M_joined 294 = .ok (.caload, 1) := by decide +kernel
theorem d_M_joined_295 : decode b_M_joined 295 = .ok (.castore, 1) := by decide +kernel
theorem d_M_joined_296 : decode b_M_joined 296 = .ok (.iinc 7 1, 3) := by decide +kernel
theorem d_M_joined_299 : decode b_M_joined 299 = .ok (.aload_n 0, 1) := by decide +kernel
theorem d_M_joined_300 : decode b_M_joined 300 = .ok (.getfield 7, 3) := by decide +kernel
theorem d_M_joined_303 : decode b_M_joined 303 = .ok (.iload 9, 2) := by decide +kernel
theorem d_M_joined_305 : decode b_M_joined 305 = .ok (.caload, 1) := by decide +kernel
theorem d_M_joined_306 : decode b_M_joined 306 = .ok (.bipush 39, 2) := by decide +kernel
theorem d_M_joined_308 : decode b_M_joined 308 = .ok (.if_icmp .ne 16, 3) := by decide +kernel
theorem d_M_joined_311 : decode b_M_joined 311 = .ok (.iload 8, 2) := by decide +kernel
theorem d_M_joined_313 : decode b_M_joined 313 = .ok (.ifCond .ne 7, 3) := by decide +kernel
theorem d_M_joined_316 : decode b_M_joined 316 = .ok (.iconst 1, 1) := by decide +kernel
theorem d_M_joined_317 : decode b_M_joined 317 = .ok (.goto 9, 3) := by decide +kernel
theorem d_M_joined_320 : decode b_M_joined 320 = .ok (.iconst 0, 1) := by decide +kernel
theorem d_M_joined_321 : decode b_M_joined 321 = .ok (.goto 5, 3) := by decide +kernel
theorem d_M_joined_324 : decode b_M_joined 324 = .ok (.iload 8, 2) := by decide +kernel
theorem d_M_joined_326 : decode b_M_joined 326 = .ok (.istore 8, 2) := by decide +kernel
theorem d_M_joined_328 : decode b_M_joined 328 = .ok (.iinc 9 1, 3) := by decide +kernel
theorem d_M_joined_331 : decode b_M_joined 331 = .ok (.goto (-85), 3) := by decide +kernel
theorem d_M_joined_334 : decode b_M_joined 334 = .ok (.iload 7, 2) := by decide +kernel
theorem d_M_joined_336 : decode b_M_joined 336 = .ok (.bipush 80, 2) := by decide +kernel
theorem d_M_joined_338 : decode b_M_joined 338 = .ok (.if_icmp .le 10, 3) := by decide +kernel
theorem d_M_joined_341 : decode b_M_joined 341 = .ok (.aload_n 0, 1) := by decide +kernel
theorem d_M_joined_342 : decode b_M_joined 342 = .ok (.iconst 2, 1) := by decide +kernel
theorem d_M_joined_343 : decode b_M_joined 343 = .ok (.putfield 82, 3) := by decide +kernel
theorem d_M_joined_346 : decode b_M_joined 346 = .ok (.iconst 0, 1) := by decide +kernel
theorem d_M_joined_347 : decode b_M_joined 347 = .ok (.ireturn, 1) := by decide +kernel
theorem d_M_joined_348 : decode b_M_joined 348 = .ok (.aload_n 0, 1) := by decide +kernel
theorem d_M_joined_349 : decode b_M_joined 349 = .ok (.getfield 17, 3) := by decide +kernel
theorem d_M_joined_352 : decode b_M_joined 352 = .ok (.iload 6, 2) := by decide +kernel
theorem d_M_joined_354 : decode b_M_joined 354 = .ok (.iload 7, 2) := by decide +kernel
theorem d_M_joined_356 : decode b_M_joined 356 = .ok (.iastore, 1) := by decide +kernel
theorem d_M_joined_357 : decode b_M_joined 357 = .ok (.aload_n 0, 1) := by decide +kernel
theorem d_M_joined_358 : decode b_M_joined 358 = .ok (.getfield 13, 3) := by decide +kernel
theorem d_M_joined_361 : decode b_M_joined 361 = .ok (.iload 6, 2) := by decide +kernel
theorem d_M_joined_363 : decode b_M_joined 363 = .ok (.iload 5, 2) := by decide +kernel
theorem d_M_joined_365 : decode b_M_joined 365 = .ok (.ifCond .eq 13, 3) := by decide +kernel
theorem d_M_joined_368 : decode b_M_joined 368 = .ok (.aload_n 0, 1) := by decide +kernel
theorem d_M_joined_369 : decode b_M_joined 369 = .ok (.getfield 13, 3) := by decide +kernel
theorem d_M_joined_372 : decode b_M_joined 372 = .ok (.iload 6, 2) := by decide +kernel
theorem d_M_joined_374 : decode b_M_joined 374 = .ok (.iaload, 1) := by decide +kernel
theorem d_M_joined_375 : decode b_M_joined 375 = .ok (.goto 5, 3) := by decide +kernel
theorem d_M_joined_378 : decode b_M_joined 378 = .ok (.iload 4, 2) := by decide +kernel
theorem d_M_joined_380 : decode b_M_joined 380 = .ok (.iastore, 1) := by decide +kernel
theorem d_M_joined_381 : decode b_M_joined 381 = .ok (.aload_n 0, 1) := by decide +kernel
theorem d_M_joined_382 : decode b_M_joined 382 = .ok (.iload 5, 2) := by decide +kernel
theorem d_M_joined_384 : decode b_M_joined 384 = .ok (.ifCond .eq 10, 3) := by decide +kernel
theorem d_M_joined_387 : decode b_M_joined 387 = .ok (.aload_n 0, 1) := by decide +kernel
theorem d_M_joined_388 : decode b_M_joined 388 = .ok (.getfield 99, 3) := by decide +kernel
theorem d_M_joined_391 : decode b_M_joined 391 = .ok (.goto 9, 3) := by decide +kernel
theorem d_M_joined_394 : decode b_M_joined 394 = .ok (.aload_n 0, 1) := by decide +kernel
theorem d_M_joined_395 : decode b_M_joined 395 = .ok (.getfield 99, 3) := by decide +kernel
theorem d_M_joined_398 : decode b_M_joined 398 = .ok (.iconst 1, 1) := by decide +kernel
theorem d_M_joined_399 : decode b_M_joined 399 = .ok (.iadd, 1) := by decide +kernel
theorem d_M_joined_400 : decode b_M_joined 400 = .ok (.putfield 99, 3) := by decide +kernel
theorem d_M_joined_403 : decode b_M_joined 403 = .ok (.iload 6, 2) := by decide +kernel
theorem d_M_joined_405 : decode b_M_joined 405 = .ok (.ireturn, 1) := by decide +kernel
abbrev y_M_card : MethodName := ⟨"DeckFrontModel", "card", "()I"⟩
abbrev b_M_card : ByteArray := prog_8_method_10_code
abbrev w_M_card : List Cond := (Jvm.Cond.code ({ cls := "DeckFrontModel", name := "card", desc := "()I" } : Jvm.MethodName) prog_8_method_10_code (3 : Nat) (Option.some Jvm.ClassFile.FieldType.int)) :: wG
theorem d_M_card_0 : decode b_M_card 0 = .ok (.aload_n 0, 1) := by decide +kernel
theorem d_M_card_1 : decode b_M_card 1 = .ok (.iconst 0, 1) := by decide +kernel
theorem d_M_card_2 : decode b_M_card 2 = .ok (.putfield 82, 3) := by decide +kernel
theorem d_M_card_5 : decode b_M_card 5 = .ok (.aload_n 0, 1) := by decide +kernel
theorem d_M_card_6 : decode b_M_card 6 = .ok (.getfield 96, 3) := by decide +kernel
theorem d_M_card_9 : decode b_M_card 9 = .ok (.istore_n 1, 1) := by decide +kernel
theorem d_M_card_10 : decode b_M_card 10 = .ok (.aload_n 0, 1) := by decide +kernel
theorem d_M_card_11 : decode b_M_card 11 = .ok (.invokevirtual 105, 3) := by decide +kernel
theorem d_M_card_14 : decode b_M_card 14 = .ok (.istore_n 2, 1) := by decide +kernel
theorem d_M_card_15 : decode b_M_card 15 = .ok (.aload_n 0, 1) := by decide +kernel
theorem d_M_card_16 : decode b_M_card 16 = .ok (.iconst 0, 1) := by decide +kernel
theorem d_M_card_17 : decode b_M_card 17 = .ok (.putfield 96, 3) := by decide +kernel
theorem d_M_card_20 : decode b_M_card 20 = .ok (.iload_n 2, 1) := by decide +kernel
theorem d_M_card_21 : decode b_M_card 21 = .ok (.ifCond .eq 7, 3) := by decide +kernel
theorem d_M_card_24 : decode b_M_card 24 = .ok (.iconst (-1), 1) := by decide +kernel
theorem d_M_card_25 : decode b_M_card 25 = .ok (.goto 8, 3) := by decide +kernel
theorem d_M_card_28 : decode b_M_card 28 = .ok (.aload_n 0, 1) := by decide +kernel
theorem d_M_card_29 : decode b_M_card 29 = .ok (.iload_n 1, 1) := by decide +kernel
theorem d_M_card_30 : decode b_M_card 30 = .ok (.invokevirtual 109, 3) := by decide +kernel
theorem d_M_card_33 : decode b_M_card 33 = .ok (.ireturn, 1) := by decide +kernel
abbrev y_M_clear : MethodName := ⟨"DeckFrontModel", "clear", "()V"⟩
abbrev b_M_clear : ByteArray := prog_8_method_11_code
abbrev w_M_clear : List Cond := (Jvm.Cond.code ({ cls := "DeckFrontModel", name := "clear", desc := "()V" } : Jvm.MethodName) prog_8_method_11_code (1 : Nat) (Option.none : Option Jvm.ClassFile.FieldType)) :: wG
theorem d_M_clear_0 : decode b_M_clear 0 = .ok (.aload_n 0, 1) := by decide +kernel
theorem d_M_clear_1 : decode b_M_clear 1 = .ok (.iconst 0, 1) := by decide +kernel
theorem d_M_clear_2 : decode b_M_clear 2 = .ok (.putfield 82, 3) := by decide +kernel
theorem d_M_clear_5 : decode b_M_clear 5 = .ok (.aload_n 0, 1) := by decide +kernel
theorem d_M_clear_6 : decode b_M_clear 6 = .ok (.iconst 0, 1) := by decide +kernel
theorem d_M_clear_7 : decode b_M_clear 7 = .ok (.putfield 99, 3) := by decide +kernel
theorem d_M_clear_10 : decode b_M_clear 10 = .ok (.return_, 1) := by decide +kernel
abbrev y_M_statements : MethodName := ⟨"DeckFrontModel", "statements", "()I"⟩
abbrev b_M_statements : ByteArray := prog_8_method_12_code
abbrev w_M_statements : List Cond := (Jvm.Cond.code ({ cls := "DeckFrontModel", name := "statements", desc := "()I" } : Jvm.MethodName) prog_8_method_12_code (1 : Nat) (Option.some Jvm.ClassFile.FieldType.int)) :: wG
theorem d_M_statements_0 : decode b_M_statements 0 = .ok (.aload_n 0, 1) := by decide +kernel
theorem d_M_statements_1 : decode b_M_statements 1 = .ok (.iconst 0, 1) := by decide +kernel
theorem d_M_statements_2 : decode b_M_statements 2 = .ok (.putfield 82, 3) := by decide +kernel
theorem d_M_statements_5 : decode b_M_statements 5 = .ok (.aload_n 0, 1) := by decide +kernel
theorem d_M_statements_6 : decode b_M_statements 6 = .ok (.getfield 99, 3) := by decide +kernel
theorem d_M_statements_9 : decode b_M_statements 9 = .ok (.ireturn, 1) := by decide +kernel
abbrev y_M_there : MethodName := ⟨"DeckFrontModel", "there", "(I)Z"⟩
abbrev b_M_there : ByteArray := prog_8_method_13_code
abbrev w_M_there : List Cond := (Jvm.Cond.code ({ cls := "DeckFrontModel", name := "there", desc := "(I)Z" } : Jvm.MethodName) prog_8_method_13_code (2 : Nat) (Option.some Jvm.ClassFile.FieldType.boolean)) :: wG
theorem d_M_there_0 : decode b_M_there 0 = .ok (.iload_n 1, 1) := by decide +kernel
theorem d_M_there_1 : decode b_M_there 1 = .ok (.ifCond .lt 15, 3) := by decide +kernel
theorem d_M_there_4 : decode b_M_there 4 = .ok (.iload_n 1, 1) := by decide +kernel
theorem d_M_there_5 : decode b_M_there 5 = .ok (.aload_n 0, 1) := by decide +kernel
theorem d_M_there_6 : decode b_M_there 6 = .ok (.getfield 99, 3) := by decide +kernel
theorem d_M_there_9 : decode b_M_there 9 = .ok (.if_icmp .ge 7, 3) := by decide +kernel
theorem d_M_there_12 : decode b_M_there 12 = .ok (.iconst 1, 1) := by decide +kernel
theorem d_M_there_13 : decode b_M_there 13 = .ok (.goto 4, 3) := by decide +kernel
theorem d_M_there_16 : decode b_M_there 16 = .ok (.iconst 0, 1) := by decide +kernel
theorem d_M_there_17 : decode b_M_there 17 = .ok (.ireturn, 1) := by decide +kernel
abbrev y_M_label : MethodName := ⟨"DeckFrontModel", "label", "(I)I"⟩
abbrev b_M_label : ByteArray := prog_8_method_14_code
abbrev w_M_label : List Cond := (Jvm.Cond.code ({ cls := "DeckFrontModel", name := "label", desc := "(I)I" } : Jvm.MethodName) prog_8_method_14_code (2 : Nat) (Option.some Jvm.ClassFile.FieldType.int)) :: wG
theorem d_M_label_0 : decode b_M_label 0 = .ok (.aload_n 0, 1) := by decide +kernel
theorem d_M_label_1 : decode b_M_label 1 = .ok (.iconst 0, 1) := by decide +kernel
theorem d_M_label_2 : decode b_M_label 2 = .ok (.putfield 82, 3) := by decide +kernel
theorem d_M_label_5 : decode b_M_label 5 = .ok (.aload_n 0, 1) := by decide +kernel
theorem d_M_label_6 : decode b_M_label 6 = .ok (.iload_n 1, 1) := by decide +kernel
theorem d_M_label_7 : decode b_M_label 7 = .ok (.invokevirtual 113, 3) := by decide +kernel
theorem d_M_label_10 : decode b_M_label 10 = .ok (.ifCond .eq 12, 3) := by decide +kernel
theorem d_M_label_13 : decode b_M_label 13 = .ok (.aload_n 0, 1) := by decide +kernel
theorem d_M_label_14 : decode b_M_label 14 = .ok (.getfield 13, 3) := by decide +kernel
theorem d_M_label_17 : decode b_M_label 17 = .ok (.iload_n 1, 1) := by decide +kernel
theorem d_M_label_18 : decode b_M_label 18 = .ok (.iaload, 1) := by decide +kernel
theorem d_M_label_19 : decode b_M_label 19 = .ok (.goto 4, 3) := by decide +kernel
theorem d_M_label_22 : decode b_M_label 22 = .ok (.iconst (-1), 1) := by decide +kernel
theorem d_M_label_23 : decode b_M_label 23 = .ok (.ireturn, 1) := by decide +kernel
abbrev y_M_at : MethodName := ⟨"DeckFrontModel", "at", "(I)I"⟩
abbrev b_M_at : ByteArray := prog_8_method_15_code
abbrev w_M_at : List Cond := (Jvm.Cond.code ({ cls := "DeckFrontModel", name := "at", desc := "(I)I" } : Jvm.MethodName) prog_8_method_15_code (2 : Nat) (Option.some Jvm.ClassFile.FieldType.int)) :: wG
theorem d_M_at_0 : decode b_M_at 0 = .ok (.iload_n 1, 1) := by decide +kernel
theorem d_M_at_1 : decode b_M_at 1 = .ok (.aload_n 0, 1) := by decide +kernel
theorem d_M_at_2 : decode b_M_at 2 = .ok (.getfield 116, 3) := by decide +kernel
theorem d_M_at_5 : decode b_M_at 5 = .ok (.if_icmp .ge 12, 3) := by decide +kernel
theorem d_M_at_8 : decode b_M_at 8 = .ok (.aload_n 0, 1) := by decide +kernel
theorem d_M_at_9 : decode b_M_at 9 = .ok (.getfield 20, 3) := by decide +kernel
theorem d_M_at_12 : decode b_M_at 12 = .ok (.iload_n 1, 1) := by decide +kernel
theorem d_M_at_13 : decode b_M_at 13 = .ok (.caload, 1) := by decide +kernel
theorem d_M_at_14 : decode b_M_at 14 = .ok (.goto 4, 3) := by decide +kernel
theorem d_M_at_17 : decode b_M_at 17 = .ok (.iconst 0, 1) := by decide +kernel
theorem d_M_at_18 : decode b_M_at 18 = .ok (.ireturn, 1) := by decide +kernel
abbrev y_M_put : MethodName := ⟨"DeckFrontModel", "put", "(I)V"⟩
abbrev b_M_put : ByteArray := prog_8_method_16_code
abbrev w_M_put : List Cond := (Jvm.Cond.code ({ cls := "DeckFrontModel", name := "put", desc := "(I)V" } : Jvm.MethodName) prog_8_method_16_code (2 : Nat) (Option.none : Option Jvm.ClassFile.FieldType)) :: wG
theorem d_M_put_0 : decode b_M_put 0 = .ok (.aload_n 0, 1) := by decide +kernel
theorem d_M_put_1 : decode b_M_put 1 = .ok (.getfield 23, 3) := by decide +kernel
theorem d_M_put_4 : decode b_M_put 4 = .ok (.aload_n 0, 1) := by decide +kernel
theorem d_M_put_5 : decode b_M_put 5 = .ok (.getfield 119, 3) := by decide +kernel
theorem d_M_put_8 : decode b_M_put 8 = .ok (.iload_n 1, 1) := by decide +kernel
theorem d_M_put_9 : decode b_M_put 9 = .ok (.i2c, 1) := by decide +kernel
theorem d_M_put_10 : decode b_M_put 10 = .ok (.castore, 1) := by decide +kernel
theorem d_M_put_11 : decode b_M_put 11 = .ok (.aload_n 0, 1) := by decide +kernel
theorem d_M_put_12 : decode b_M_put 12 = .ok (.dup, 1) := by decide +kernel
theorem d_M_put_13 : decode b_M_put 13 = .ok (.getfield 119, 3) := by decide +kernel
theorem d_M_put_16 : decode b_M_put 16 = .ok (.iconst 1, 1) := by decide +kernel
theorem d_M_put_17 : decode b_M_put 17 = .ok (.iadd, 1) := by decide +kernel
theorem d_M_put_18 : decode b_M_put 18 = .ok (.putfield 119, 3) := by decide +kernel
theorem d_M_put_21 : decode b_M_put 21 = .ok (.return_, 1) := by decide +kernel
abbrev y_M_putPart : MethodName := ⟨"DeckFrontModel", "putPart", "(II)V"⟩
abbrev b_M_putPart : ByteArray := prog_8_method_17_code
abbrev w_M_putPart : List Cond := (Jvm.Cond.code ({ cls := "DeckFrontModel", name := "putPart", desc := "(II)V" } : Jvm.MethodName) prog_8_method_17_code (4 : Nat) (Option.none : Option Jvm.ClassFile.FieldType)) :: wG
theorem d_M_putPart_0 : decode b_M_putPart 0 = .ok (.iload_n 1, 1) := by decide +kernel
theorem d_M_putPart_1 : decode b_M_putPart 1 = .ok (.istore_n 3, 1) := by decide +kernel
theorem d_M_putPart_2 : decode b_M_putPart 2 = .ok (.iload_n 3, 1) := by decide +kernel
theorem d_M_putPart_3 : decode b_M_putPart 3 = .ok (.iload_n 2, 1) := by decide +kernel
theorem d_M_putPart_4 : decode b_M_putPart 4 = .ok (.if_icmp .ge 19, 3) := by decide +kernel
theorem d_M_putPart_7 : decode b_M_putPart 7 = .ok (.aload_n 0, 1) := by decide +kernel
theorem d_M_putPart_8 : decode b_M_putPart 8 = .ok (.aload_n 0, 1) := by decide +kernel
theorem d_M_putPart_9 : decode b_M_putPart 9 = .ok (.getfield 20, 3) := by decide +kernel
theorem d_M_putPart_12 : decode b_M_putPart 12 = .ok (.iload_n 3, 1) := by decide +kernel
theorem d_M_putPart_13 : decode b_M_putPart 13 = .ok (.caload, 1) := by decide +kernel
theorem d_M_putPart_14 : decode b_M_putPart 14 = .ok (.invokevirtual 122, 3) := by decide +kernel
theorem d_M_putPart_17 : decode b_M_putPart 17 = .ok (.iinc 3 1, 3) := by decide +kernel
theorem d_M_putPart_20 : decode b_M_putPart 20 = .ok (.goto (-18), 3) := by decide +kernel
theorem d_M_putPart_23 : decode b_M_putPart 23 = .ok (.return_, 1) := by decide +kernel
abbrev y_M_word : MethodName := ⟨"DeckFrontModel", "word", "(J)Z"⟩
abbrev b_M_word : ByteArray := prog_8_method_18_code
abbrev w_M_word : List Cond := (Jvm.Cond.code ({ cls := "DeckFrontModel", name := "word", desc := "(J)Z" } : Jvm.MethodName) prog_8_method_18_code (5 : Nat) (Option.some Jvm.ClassFile.FieldType.boolean)) :: wG
theorem d_M_word_0 : decode b_M_word 0 = .ok (.iconst 0, 1) := by decide +kernel
theorem d_M_word_1 : decode b_M_word 1 = .ok (.istore_n 3, 1) := by decide +kernel
theorem d_M_word_2 : decode b_M_word 2 = .ok (.iload_n 3, 1) := by decide +kernel
theorem d_M_word_3 : decode b_M_word 3 = .ok (.bipush 8, 2) := by decide +kernel
theorem d_M_word_5 : decode b_M_word 5 = .ok (.if_icmp .ge 20, 3) := by decide +kernel
theorem d_M_word_8 : decode b_M_word 8 = .ok (.lload_n 1, 1) := by decide +kernel
theorem d_M_word_9 : decode b_M_word 9 = .ok (.bipush 8, 2) := by decide +kernel
theorem d_M_word_11 : decode b_M_word 11 = .ok (.iload_n 3, 1) := by decide +kernel
theorem d_M_word_12 : decode b_M_word 12 = .ok (.imul, 1) := by decide +kernel
theorem d_M_word_13 : decode b_M_word 13 = .ok (.lshr, 1) := by decide +kernel
theorem d_M_word_14 : decode b_M_word 14 = .ok (.lconst 0, 1) := by decide +kernel
theorem d_M_word_15 : decode b_M_word 15 = .ok (.lcmp, 1) := by decide +kernel
theorem d_M_word_16 : decode b_M_word 16 = .ok (.ifCond .eq 9, 3) := by decide +kernel
theorem d_M_word_19 : decode b_M_word 19 = .ok (.iinc 3 1, 3) := by decide +kernel
theorem d_M_word_22 : decode b_M_word 22 = .ok (.goto (-20), 3) := by decide +kernel
theorem d_M_word_25 : decode b_M_word 25 = .ok (.iconst 0, 1) := by decide +kernel
theorem d_M_word_26 : decode b_M_word 26 = .ok (.istore 4, 2) := by decide +kernel
theorem d_M_word_28 : decode b_M_word 28 = .ok (.iload 4, 2) := by decide +kernel
theorem d_M_word_30 : decode b_M_word 30 = .ok (.iload_n 3, 1) := by decide +kernel
theorem d_M_word_31 : decode b_M_word 31 = .ok (.if_icmp .ge 41, 3) := by decide +kernel
theorem d_M_word_34 : decode b_M_word 34 = .ok (.aload_n 0, 1) := by decide +kernel
theorem d_M_word_35 : decode b_M_word 35 = .ok (.aload_n 0, 1) := by decide +kernel
theorem d_M_word_36 : decode b_M_word 36 = .ok (.getfield 126, 3) := by decide +kernel
theorem d_M_word_39 : decode b_M_word 39 = .ok (.iload 4, 2) := by decide +kernel
theorem d_M_word_41 : decode b_M_word 41 = .ok (.iadd, 1) := by decide +kernel
theorem d_M_word_42 : decode b_M_word 42 = .ok (.invokevirtual 129, 3) := by decide +kernel
theorem d_M_word_45 : decode b_M_word 45 = .ok (.lload_n 1, 1) := by decide +kernel
theorem d_M_word_46 : decode b_M_word 46 = .ok (.bipush 8, 2) := by decide +kernel
theorem d_M_word_48 : decode b_M_word 48 = .ok (.iload_n 3, 1) := by decide +kernel
theorem d_M_word_49 : decode b_M_word 49 = .ok (.iconst 1, 1) := by decide +kernel
theorem d_M_word_50 : decode b_M_word 50 = .ok (.isub, 1) := by decide +kernel
theorem d_M_word_51 : decode b_M_word 51 = .ok (.iload 4, 2) := by decide +kernel
theorem d_M_word_53 : decode b_M_word 53 = .ok (.isub, 1) := by decide +kernel
theorem d_M_word_54 : decode b_M_word 54 = .ok (.imul, 1) := by decide +kernel
theorem d_M_word_55 : decode b_M_word 55 = .ok (.lshr, 1) := by decide +kernel
theorem d_M_word_56 : decode b_M_word 56 = .ok (.ldc2_w 132, 3) := by decide +kernel
theorem d_M_word_59 : decode b_M_word 59 = .ok (.land, 1) := by decide +kernel
theorem d_M_word_60 : decode b_M_word 60 = .ok (.l2i, 1) := by decide +kernel
theorem d_M_word_61 : decode b_M_word 61 = .ok (.if_icmp .eq 5, 3) := by decide +kernel
theorem d_M_word_64 : decode b_M_word 64 = .ok (.iconst 0, 1) := by decide +kernel
theorem d_M_word_65 : decode b_M_word 65 = .ok (.ireturn, 1) := by decide +kernel
theorem d_M_word_66 : decode b_M_word 66 = .ok (.iinc 4 1, 3) := by decide +kernel
theorem d_M_word_69 : decode b_M_word 69 = .ok (.goto (-41), 3) := by decide +kernel
theorem d_M_word_72 : decode b_M_word 72 = .ok (.aload_n 0, 1) := by decide +kernel
theorem d_M_word_73 : decode b_M_word 73 = .ok (.aload_n 0, 1) := by decide +kernel
theorem d_M_word_74 : decode b_M_word 74 = .ok (.getfield 126, 3) := by decide +kernel
theorem d_M_word_77 : decode b_M_word 77 = .ok (.aload_n 0, 1) := by decide +kernel
theorem d_M_word_78 : decode b_M_word 78 = .ok (.getfield 126, 3) := by decide +kernel
theorem d_M_word_81 : decode b_M_word 81 = .ok (.iload_n 3, 1) := by decide +kernel
theorem d_M_word_82 : decode b_M_word 82 = .ok (.iadd, 1) := by decide +kernel
theorem d_M_word_83 : decode b_M_word 83 = .ok (.invokevirtual 134, 3) := by decide +kernel
theorem d_M_word_86 : decode b_M_word 86 = .ok (.aload_n 0, 1) := by decide +kernel
theorem d_M_word_87 : decode b_M_word 87 = .ok (.dup, 1) := by decide +kernel
theorem d_M_word_88 : decode b_M_word 88 = .ok (.getfield 126, 3) := by decide +kernel
theorem d_M_word_91 : decode b_M_word 91 = .ok (.iload_n 3, 1) := by decide +kernel
theorem d_M_word_92 : decode b_M_word 92 = .ok (.iadd, 1) := by decide +kernel
theorem d_M_word_93 : decode b_M_word 93 = .ok (.putfield 126, 3) := by decide +kernel
theorem d_M_word_96 : decode b_M_word 96 = .ok (.iconst 1, 1) := by decide +kernel
theorem d_M_word_97 : decode b_M_word 97 = .ok (.ireturn, 1) := by decide +kernel
abbrev y_M_sign : MethodName := ⟨"DeckFrontModel", "sign", "(I)Z"⟩
abbrev b_M_sign : ByteArray := prog_8_method_19_code
abbrev w_M_sign : List Cond := (Jvm.Cond.code ({ cls := "DeckFrontModel", name := "sign", desc := "(I)Z" } : Jvm.MethodName) prog_8_method_19_code (2 : Nat) (Option.some Jvm.ClassFile.FieldType.boolean)) :: wG
theorem d_M_sign_0 : decode b_M_sign 0 = .ok (.aload_n 0, 1) := by decide +kernel
theorem d_M_sign_1 : decode b_M_sign 1 = .ok (.aload_n 0, 1) := by decide +kernel
theorem d_M_sign_2 : decode b_M_sign 2 = .ok (.getfield 126, 3) := by decide +kernel
theorem d_M_sign_5 : decode b_M_sign 5 = .ok (.invokevirtual 129, 3) := by decide +kernel
theorem d_M_sign_8 : decode b_M_sign 8 = .ok (.iload_n 1, 1) := by decide +kernel
theorem d_M_sign_9 : decode b_M_sign 9 = .ok (.if_icmp .eq 5, 3) := by decide +kernel
theorem d_M_sign_12 : decode b_M_sign 12 = .ok (.iconst 0, 1) := by decide +kernel
theorem d_M_sign_13 : decode b_M_sign 13 = .ok (.ireturn, 1) := by decide +kernel
theorem d_M_sign_14 : decode b_M_sign 14 = .ok (.aload_n 0, 1) := by decide +kernel
theorem d_M_sign_15 : decode b_M_sign 15 = .ok (.iload_n 1, 1) := by decide +kernel
theorem d_M_sign_16 : decode b_M_sign 16 = .ok (.invokevirtual 122, 3) := by decide +kernel
theorem d_M_sign_19 : decode b_M_sign 19 = .ok (.aload_n 0, 1) := by decide +kernel
theorem d_M_sign_20 : decode b_M_sign 20 = .ok (.dup, 1) := by decide +kernel
theorem d_M_sign_21 : decode b_M_sign 21 = .ok (.getfield 126, 3) := by decide +kernel
theorem d_M_sign_24 : decode b_M_sign 24 = .ok (.iconst 1, 1) := by decide +kernel
theorem d_M_sign_25 : decode b_M_sign 25 = .ok (.iadd, 1) := by decide +kernel
theorem d_M_sign_26 : decode b_M_sign 26 = .ok (.putfield 126, 3) := by decide +kernel
theorem d_M_sign_29 : decode b_M_sign 29 = .ok (.iconst 1, 1) := by decide +kernel
theorem d_M_sign_30 : decode b_M_sign 30 = .ok (.ireturn, 1) := by decide +kernel
abbrev y_M_comma : MethodName := ⟨"DeckFrontModel", "comma", "()V"⟩
abbrev b_M_comma : ByteArray := prog_8_method_20_code
abbrev w_M_comma : List Cond := (Jvm.Cond.code ({ cls := "DeckFrontModel", name := "comma", desc := "()V" } : Jvm.MethodName) prog_8_method_20_code (1 : Nat) (Option.none : Option Jvm.ClassFile.FieldType)) :: wG
theorem d_M_comma_0 : decode b_M_comma 0 = .ok (.aload_n 0, 1) := by decide +kernel
theorem d_M_comma_1 : decode b_M_comma 1 = .ok (.aload_n 0, 1) := by decide +kernel
theorem d_M_comma_2 : decode b_M_comma 2 = .ok (.aload_n 0, 1) := by decide +kernel
theorem d_M_comma_3 : decode b_M_comma 3 = .ok (.getfield 126, 3) := by decide +kernel
theorem d_M_comma_6 : decode b_M_comma 6 = .ok (.invokevirtual 129, 3) := by decide +kernel
theorem d_M_comma_9 : decode b_M_comma 9 = .ok (.bipush 44, 2) := by decide +kernel
theorem d_M_comma_11 : decode b_M_comma 11 = .ok (.if_icmp .ne 12, 3) := by decide +kernel
theorem d_M_comma_14 : decode b_M_comma 14 = .ok (.aload_n 0, 1) := by decide +kernel
theorem d_M_comma_15 : decode b_M_comma 15 = .ok (.getfield 126, 3) := by decide +kernel
theorem d_M_comma_18 : decode b_M_comma 18 = .ok (.iconst 1, 1) := by decide +kernel
theorem d_M_comma_19 : decode b_M_comma 19 = .ok (.iadd, 1) := by decide +kernel
theorem d_M_comma_20 : decode b_M_comma 20 = .ok (.goto 7, 3) := by decide +kernel
theorem d_M_comma_23 : decode b_M_comma 23 = .ok (.aload_n 0, 1) := by decide +kernel
theorem d_M_comma_24 : decode b_M_comma 24 = .ok (.getfield 126, 3) := by decide +kernel
theorem d_M_comma_27 : decode b_M_comma 27 = .ok (.putfield 126, 3) := by decide +kernel
theorem d_M_comma_30 : decode b_M_comma 30 = .ok (.return_, 1) := by decide +kernel
abbrev y_M_digits : MethodName := ⟨"DeckFrontModel", "digits", "(I)I"⟩
abbrev b_M_digits : ByteArray := prog_8_method_21_code
abbrev w_M_digits : List Cond := (Jvm.Cond.code ({ cls := "DeckFrontModel", name := "digits", desc := "(I)I" } : Jvm.MethodName) prog_8_method_21_code (5 : Nat) (Option.some Jvm.ClassFile.FieldType.int)) :: wG
theorem d_M_digits_0 : decode b_M_digits 0 = .ok (.iconst 0, 1) := by decide +kernel
theorem d_M_digits_1 : decode b_M_digits 1 = .ok (.istore_n 2, 1) := by decide +kernel
theorem d_M_digits_2 : decode b_M_digits 2 = .ok (.iconst 0, 1) := by decide +kernel
theorem d_M_digits_3 : decode b_M_digits 3 = .ok (.istore_n 3, 1) := by decide +kernel
theorem d_M_digits_4 : decode b_M_digits 4 = .ok (.iload_n 3, 1) := by decide +kernel
theorem d_M_digits_5 : decode b_M_digits 5 = .ok (.iload_n 1, 1) := by decide +kernel
theorem d_M_digits_6 : decode b_M_digits 6 = .ok (.if_icmp .ge 50, 3) := by decide +kernel
theorem d_M_digits_9 : decode b_M_digits 9 = .ok (.aload_n 0, 1) := by decide +kernel
theorem d_M_digits_10 : decode b_M_digits 10 = .ok (.aload_n 0, 1) := by decide +kernel
theorem d_M_digits_11 : decode b_M_digits 11 = .ok (.getfield 126, 3) := by decide +kernel
theorem d_M_digits_14 : decode b_M_digits 14 = .ok (.invokevirtual 129, 3) := by decide +kernel
theorem d_M_digits_17 : decode b_M_digits 17 = .ok (.invokestatic 90, 3) := by decide +kernel
theorem d_M_digits_20 : decode b_M_digits 20 = .ok (.ifCond .eq 36, 3) := by decide +kernel
theorem d_M_digits_23 : decode b_M_digits 23 = .ok (.bipush 10, 2) := by decide +kernel
theorem d_M_digits_25 : decode b_M_digits 25 = .ok (.iload_n 2, 1) := by decide +kernel
theorem d_M_digits_26 : decode b_M_digits 26 = .ok (.imul, 1) := by decide +kernel
theorem d_M_digits_27 : decode b_M_digits 27 = .ok (.aload_n 0, 1) := by decide +kernel
theorem d_M_digits_28 : decode b_M_digits 28 = .ok (.aload_n 0, 1) := by decide +kernel
theorem d_M_digits_29 : decode b_M_digits 29 = .ok (.getfield 126, 3) := by decide +kernel
theorem d_M_digits_32 : decode b_M_digits 32 = .ok (.invokevirtual 129, 3) := by decide +kernel
theorem d_M_digits_35 : decode b_M_digits 35 = .ok (.iadd, 1) := by decide +kernel
theorem d_M_digits_36 : decode b_M_digits 36 = .ok (.bipush 48, 2) := by decide +kernel
theorem d_M_digits_38 : decode b_M_digits 38 = .ok (.isub, 1) := by decide +kernel
theorem d_M_digits_39 : decode b_M_digits 39 = .ok (.istore_n 2, 1) := by decide +kernel
theorem d_M_digits_40 : decode b_M_digits 40 = .ok (.aload_n 0, 1) := by decide +kernel
theorem d_M_digits_41 : decode b_M_digits 41 = .ok (.dup, 1) := by decide +kernel
theorem d_M_digits_42 : decode b_M_digits 42 = .ok (.getfield 126, 3) := by decide +kernel
theorem d_M_digits_45 : decode b_M_digits 45 = .ok (.iconst 1, 1) := by decide +kernel
theorem d_M_digits_46 : decode b_M_digits 46 = .ok (.iadd, 1) := by decide +kernel
theorem d_M_digits_47 : decode b_M_digits 47 = .ok (.putfield 126, 3) := by decide +kernel
theorem d_M_digits_50 : decode b_M_digits 50 = .ok (.iinc 3 1, 3) := by decide +kernel
theorem d_M_digits_53 : decode b_M_digits 53 = .ok (.goto (-49), 3) := by decide +kernel
theorem d_M_digits_56 : decode b_M_digits 56 = .ok (.iload_n 3, 1) := by decide +kernel
theorem d_M_digits_57 : decode b_M_digits 57 = .ok (.ifCond .ne 5, 3) := by decide +kernel
theorem d_M_digits_60 : decode b_M_digits 60 = .ok (.iconst (-1), 1) := by decide +kernel
theorem d_M_digits_61 : decode b_M_digits 61 = .ok (.ireturn, 1) := by decide +kernel
theorem d_M_digits_62 : decode b_M_digits 62 = .ok (.sipush 10000, 3) := by decide +kernel
theorem d_M_digits_65 : decode b_M_digits 65 = .ok (.istore 4, 2) := by decide +kernel
theorem d_M_digits_67 : decode b_M_digits 67 = .ok (.iload 4, 2) := by decide +kernel
theorem d_M_digits_69 : decode b_M_digits 69 = .ok (.ifCond .le 39, 3) := by decide +kernel
theorem d_M_digits_72 : decode b_M_digits 72 = .ok (.iload_n 2, 1) := by decide +kernel
theorem d_M_digits_73 : decode b_M_digits 73 = .ok (.iload 4, 2) := by decide +kernel
theorem d_M_digits_75 : decode b_M_digits 75 = .ok (.if_icmp .ge 9, 3) := by decide +kernel
theorem d_M_digits_78 : decode b_M_digits 78 = .ok (.iload 4, 2) := by decide +kernel
theorem d_M_digits_80 : decode b_M_digits 80 = .ok (.iconst 1, 1) := by decide +kernel
theorem d_M_digits_81 : decode b_M_digits 81 = .ok (.if_icmp .ne 17, 3) := by decide +kernel
theorem d_M_digits_84 : decode b_M_digits 84 = .ok (.aload_n 0, 1) := by decide +kernel
theorem d_M_digits_85 : decode b_M_digits 85 = .ok (.bipush 48, 2) := by decide +kernel
theorem d_M_digits_87 : decode b_M_digits 87 = .ok (.iload_n 2, 1) := by decide +kernel
theorem d_M_digits_88 : decode b_M_digits 88 = .ok (.iload 4, 2) := by decide +kernel
theorem d_M_digits_90 : decode b_M_digits 90 = .ok (.idiv, 1) := by decide +kernel
theorem d_M_digits_91 : decode b_M_digits 91 = .ok (.bipush 10, 2) := by decide +kernel
theorem d_M_digits_93 : decode b_M_digits 93 = .ok (.irem, 1) := by decide +kernel
theorem d_M_digits_94 : decode b_M_digits 94 = .ok (.iadd, 1) := by decide +kernel
theorem d_M_digits_95 : decode b_M_digits 95 = .ok (.invokevirtual 122, 3) := by decide +kernel
theorem d_M_digits_98 : decode b_M_digits 98 = .ok (.iload 4, 2) := by decide +kernel
theorem d_M_digits_100 : decode b_M_digits 100 = .ok (.bipush 10, 2) := by decide +kernel
theorem d_M_digits_102 : decode b_M_digits 102 = .ok (.idiv, 1) := by decide +kernel
theorem d_M_digits_103 : decode b_M_digits 103 = .ok (.istore 4, 2) := by decide +kernel
theorem d_M_digits_105 : decode b_M_digits 105 = .ok (.goto (-38), 3) := by decide +kernel
theorem d_M_digits_108 : decode b_M_digits 108 = .ok (.iload_n 2, 1) := by decide +kernel
theorem d_M_digits_109 : decode b_M_digits 109 = .ok (.ireturn, 1) := by decide +kernel
abbrev y_M_nameEnd : MethodName := ⟨"DeckFrontModel", "nameEnd", "(I)I"⟩
abbrev b_M_nameEnd : ByteArray := prog_8_method_22_code
abbrev w_M_nameEnd : List Cond := (Jvm.Cond.code ({ cls := "DeckFrontModel", name := "nameEnd", desc := "(I)I" } : Jvm.MethodName) prog_8_method_22_code (3 : Nat) (Option.some Jvm.ClassFile.FieldType.int)) :: wG
theorem d_M_nameEnd_0 : decode b_M_nameEnd 0 = .ok (.iload_n 1, 1) := by decide +kernel
theorem d_M_nameEnd_1 : decode b_M_nameEnd 1 = .ok (.istore_n 2, 1) := by decide +kernel
theorem d_M_nameEnd_2 : decode b_M_nameEnd 2 = .ok (.iload_n 2, 1) := by decide +kernel
theorem d_M_nameEnd_3 : decode b_M_nameEnd 3 = .ok (.iload_n 1, 1) := by decide +kernel
theorem d_M_nameEnd_4 : decode b_M_nameEnd 4 = .ok (.bipush 6, 2) := by decide +kernel
theorem d_M_nameEnd_6 : decode b_M_nameEnd 6 = .ok (.iadd, 1) := by decide +kernel
theorem d_M_nameEnd_7 : decode b_M_nameEnd 7 = .ok (.if_icmp .ge 36, 3) := by decide +kernel
theorem d_M_nameEnd_10 : decode b_M_nameEnd 10 = .ok (.aload_n 0, 1) := by decide +kernel
theorem d_M_nameEnd_11 : decode b_M_nameEnd 11 = .ok (.iload_n 2, 1) := by decide +kernel
theorem d_M_nameEnd_12 : decode b_M_nameEnd 12 = .ok (.invokevirtual 129, 3) := by decide +kernel
theorem d_M_nameEnd_15 : decode b_M_nameEnd 15 = .ok (.invokestatic 86, 3) := by decide +kernel
theorem d_M_nameEnd_18 : decode b_M_nameEnd 18 = .ok (.ifCond .ne 19, 3) := by decide +kernel
theorem d_M_nameEnd_21 : decode b_M_nameEnd 21 = .ok (.iload_n 2, 1) := by decide +kernel
theorem d_M_nameEnd_22 : decode b_M_nameEnd 22 = .ok (.iload_n 1, 1) := by decide +kernel
theorem d_M_nameEnd_23 : decode b_M_nameEnd 23 = .ok (.if_icmp .le 20, 3) := by decide +kernel
theorem d_M_nameEnd_26 : decode b_M_nameEnd 26 = .ok (.aload_n 0, 1) := by decide +kernel
theorem d_M_nameEnd_27 : decode b_M_nameEnd 27 = .ok (.iload_n 2, 1) := by decide +kernel
theorem d_M_nameEnd_28 : decode b_M_nameEnd 28 = .ok (.invokevirtual 129, 3) := by decide +kernel
theorem d_M_nameEnd_31 : decode b_M_nameEnd 31 = .ok (.invokestatic 90, 3) := by decide +kernel
theorem d_M_nameEnd_34 : decode b_M_nameEnd 34 = .ok (.ifCond .eq 9, 3) := by decide +kernel
theorem d_M_nameEnd_37 : decode b_M_nameEnd 37 = .ok (.iinc 2 1, 3) := by decide +kernel
theorem d_M_nameEnd_40 : decode b_M_nameEnd 40 = .ok (.goto (-38), 3) := by decide +kernel
theorem d_M_nameEnd_43 : decode b_M_nameEnd 43 = .ok (.iload_n 2, 1) := by decide +kernel
theorem d_M_nameEnd_44 : decode b_M_nameEnd 44 = .ok (.ireturn, 1) := by decide +kernel

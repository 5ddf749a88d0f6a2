abbrev y_M_use : MethodName := ⟨"DeckFrontModel", "use", "(IIII)V"⟩
abbrev b_M_use : ByteArray := prog_8_method_23_code
abbrev w_M_use : List Cond := (Jvm.Cond.code ({ cls := "DeckFrontModel", name := "use", desc := "(IIII)V" } : Jvm.MethodName) prog_8_method_23_code (8 : Nat) (Option.none : Option Jvm.ClassFile.FieldType)) :: wG
theorem d_M_use_0 : decode b_M_use 0 = .ok (.lconst 0, 1) := by decide +kernel
theorem d_M_use_1 : decode b_M_use 1 = .ok (.lstore 5, 2) := by decide +kernel
theorem d_M_use_3 : decode b_M_use 3 = .ok (.iload_n 1, 1) := by decide +kernel
theorem d_M_use_4 : decode b_M_use 4 = .ok (.istore 7, 2) := by decide +kernel
theorem d_M_use_6 : decode b_M_use 6 = .ok (.iload 7, 2) := by decide +kernel
theorem d_M_use_8 : decode b_M_use 8 = .ok (.iload_n 2, 1) := by decide +kernel
theorem d_M_use_9 : decode b_M_use 9 = .ok (.if_icmp .ge 25, 3) := by decide +kernel
theorem d_M_use_12 : decode b_M_use 12 = .ok (.lload 5, 2) := by decide +kernel
theorem d_M_use_14 : decode b_M_use 14 = .ok (.bipush 8, 2) := by decide +kernel
theorem d_M_use_16 : decode b_M_use 16 = .ok (.lshl, 1) := by decide +kernel
theorem d_M_use_17 : decode b_M_use 17 = .ok (.aload_n 0, 1) := by decide +kernel
theorem d_M_use_18 : decode b_M_use 18 = .ok (.getfield 20, 3) := by decide +kernel
theorem d_M_use_21 : decode b_M_use 21 = .ok (.iload 7, 2) := by decide +kernel
theorem d_M_use_23 : decode b_M_use 23 = .ok (.caload, 1) := by decide +kernel
theorem d_M_use_24 : decode b_M_use 24 = .ok (.i2l, 1) := by decide +kernel
theorem d_M_use_25 : decode b_M_use 25 = .ok (.lor, 1) := by decide +kernel
theorem d_M_use_26 : decode b_M_use 26 = .ok (.lstore 5, 2) := by decide +kernel
theorem d_M_use_28 : decode b_M_use 28 = .ok (.iinc 7 1, 3) := by decide +kernel
theorem d_M_use_31 : decode b_M_use 31 = .ok (.goto (-25), 3) := by decide +kernel
theorem d_M_use_34 : decode b_M_use 34 = .ok (.aload_n 0, 1) := by decide +kernel
theorem d_M_use_35 : decode b_M_use 35 = .ok (.getfield 26, 3) := by decide +kernel
theorem d_M_use_38 : decode b_M_use 38 = .ok (.aload_n 0, 1) := by decide +kernel
theorem d_M_use_39 : decode b_M_use 39 = .ok (.getfield 138, 3) := by decide +kernel
theorem d_M_use_42 : decode b_M_use 42 = .ok (.lload 5, 2) := by decide +kernel
theorem d_M_use_44 : decode b_M_use 44 = .ok (.lastore, 1) := by decide +kernel
theorem d_M_use_45 : decode b_M_use 45 = .ok (.aload_n 0, 1) := by decide +kernel
theorem d_M_use_46 : decode b_M_use 46 = .ok (.getfield 30, 3) := by decide +kernel
theorem d_M_use_49 : decode b_M_use 49 = .ok (.aload_n 0, 1) := by decide +kernel
theorem d_M_use_50 : decode b_M_use 50 = .ok (.getfield 138, 3) := by decide +kernel
theorem d_M_use_53 : decode b_M_use 53 = .ok (.iload_n 3, 1) := by decide +kernel
theorem d_M_use_54 : decode b_M_use 54 = .ok (.iastore, 1) := by decide +kernel
theorem d_M_use_55 : decode b_M_use 55 = .ok (.aload_n 0, 1) := by decide +kernel
theorem d_M_use_56 : decode b_M_use 56 = .ok (.getfield 33, 3) := by decide +kernel
theorem d_M_use_59 : decode b_M_use 59 = .ok (.aload_n 0, 1) := by decide +kernel
theorem d_M_use_60 : decode b_M_use 60 = .ok (.getfield 138, 3) := by decide +kernel
theorem d_M_use_63 : decode b_M_use 63 = .ok (.iload 4, 2) := by decide +kernel
theorem d_M_use_65 : decode b_M_use 65 = .ok (.iastore, 1) := by decide +kernel
theorem d_M_use_66 : decode b_M_use 66 = .ok (.aload_n 0, 1) := by decide +kernel
theorem d_M_use_67 : decode b_M_use 67 = .ok (.dup, 1) := by decide +kernel
theorem d_M_use_68 : decode b_M_use 68 = .ok (.getfield 138, 3) := by decide +kernel
theorem d_M_use_71 : decode b_M_use 71 = .ok (.iconst 1, 1) := by decide +kernel
theorem d_M_use_72 : decode b_M_use 72 = .ok (.iadd, 1) := by decide +kernel
theorem d_M_use_73 : decode b_M_use 73 = .ok (.putfield 138, 3) := by decide +kernel
theorem d_M_use_76 : decode b_M_use 76 = .ok (.return_, 1) := by decide +kernel
abbrev y_M_name : MethodName := ⟨"DeckFrontModel", "name", "(II)Z"⟩
abbrev b_M_name : ByteArray := prog_8_method_24_code
abbrev w_M_name : List Cond := (Jvm.Cond.code ({ cls := "DeckFrontModel", name := "name", desc := "(II)Z" } : Jvm.MethodName) prog_8_method_24_code (4 : Nat) (Option.some Jvm.ClassFile.FieldType.boolean)) :: wG
theorem d_M_name_0 : decode b_M_name 0 = .ok (.aload_n 0, 1) := by decide +kernel
theorem d_M_name_1 : decode b_M_name 1 = .ok (.aload_n 0, 1) := by decide +kernel
theorem d_M_name_2 : decode b_M_name 2 = .ok (.getfield 126, 3) := by decide +kernel
theorem d_M_name_5 : decode b_M_name 5 = .ok (.invokevirtual 141, 3) := by decide +kernel
theorem d_M_name_8 : decode b_M_name 8 = .ok (.istore_n 3, 1) := by decide +kernel
theorem d_M_name_9 : decode b_M_name 9 = .ok (.iload_n 3, 1) := by decide +kernel
theorem d_M_name_10 : decode b_M_name 10 = .ok (.aload_n 0, 1) := by decide +kernel
theorem d_M_name_11 : decode b_M_name 11 = .ok (.getfield 126, 3) := by decide +kernel
theorem d_M_name_14 : decode b_M_name 14 = .ok (.if_icmp .ne 5, 3) := by decide +kernel
theorem d_M_name_17 : decode b_M_name 17 = .ok (.iconst 0, 1) := by decide +kernel
theorem d_M_name_18 : decode b_M_name 18 = .ok (.ireturn, 1) := by decide +kernel
theorem d_M_name_19 : decode b_M_name 19 = .ok (.aload_n 0, 1) := by decide +kernel
theorem d_M_name_20 : decode b_M_name 20 = .ok (.aload_n 0, 1) := by decide +kernel
theorem d_M_name_21 : decode b_M_name 21 = .ok (.getfield 126, 3) := by decide +kernel
theorem d_M_name_24 : decode b_M_name 24 = .ok (.iload_n 3, 1) := by decide +kernel
theorem d_M_name_25 : decode b_M_name 25 = .ok (.iload_n 1, 1) := by decide +kernel
theorem d_M_name_26 : decode b_M_name 26 = .ok (.iload_n 2, 1) := by decide +kernel
theorem d_M_name_27 : decode b_M_name 27 = .ok (.invokevirtual 144, 3) := by decide +kernel
theorem d_M_name_30 : decode b_M_name 30 = .ok (.aload_n 0, 1) := by decide +kernel
theorem d_M_name_31 : decode b_M_name 31 = .ok (.aload_n 0, 1) := by decide +kernel
theorem d_M_name_32 : decode b_M_name 32 = .ok (.getfield 126, 3) := by decide +kernel
theorem d_M_name_35 : decode b_M_name 35 = .ok (.iload_n 3, 1) := by decide +kernel
theorem d_M_name_36 : decode b_M_name 36 = .ok (.invokevirtual 134, 3) := by decide +kernel
theorem d_M_name_39 : decode b_M_name 39 = .ok (.aload_n 0, 1) := by decide +kernel
theorem d_M_name_40 : decode b_M_name 40 = .ok (.iload_n 3, 1) := by decide +kernel
theorem d_M_name_41 : decode b_M_name 41 = .ok (.putfield 126, 3) := by decide +kernel
theorem d_M_name_44 : decode b_M_name 44 = .ok (.iconst 1, 1) := by decide +kernel
theorem d_M_name_45 : decode b_M_name 45 = .ok (.ireturn, 1) := by decide +kernel
abbrev y_M_dots : MethodName := ⟨"DeckFrontModel", "dots", "(I)I"⟩
abbrev b_M_dots : ByteArray := prog_8_method_25_code
abbrev w_M_dots : List Cond := (Jvm.Cond.code ({ cls := "DeckFrontModel", name := "dots", desc := "(I)I" } : Jvm.MethodName) prog_8_method_25_code (6 : Nat) (Option.some Jvm.ClassFile.FieldType.int)) :: wG
theorem d_M_dots_0 : decode b_M_dots 0 = .ok (.iload_n 1, 1) := by decide +kernel
theorem d_M_dots_1 : decode b_M_dots 1 = .ok (.iconst 1, 1) := by decide +kernel
theorem d_M_dots_2 : decode b_M_dots 2 = .ok (.iadd, 1) := by decide +kernel
theorem d_M_dots_3 : decode b_M_dots 3 = .ok (.istore_n 2, 1) := by decide +kernel
theorem d_M_dots_4 : decode b_M_dots 4 = .ok (.lconst 0, 1) := by decide +kernel
theorem d_M_dots_5 : decode b_M_dots 5 = .ok (.lstore_n 3, 1) := by decide +kernel
theorem d_M_dots_6 : decode b_M_dots 6 = .ok (.iload_n 2, 1) := by decide +kernel
theorem d_M_dots_7 : decode b_M_dots 7 = .ok (.iload_n 1, 1) := by decide +kernel
theorem d_M_dots_8 : decode b_M_dots 8 = .ok (.bipush 7, 2) := by decide +kernel
theorem d_M_dots_10 : decode b_M_dots 10 = .ok (.iadd, 1) := by decide +kernel
theorem d_M_dots_11 : decode b_M_dots 11 = .ok (.if_icmp .ge 32, 3) := by decide +kernel
theorem d_M_dots_14 : decode b_M_dots 14 = .ok (.aload_n 0, 1) := by decide +kernel
theorem d_M_dots_15 : decode b_M_dots 15 = .ok (.iload_n 2, 1) := by decide +kernel
theorem d_M_dots_16 : decode b_M_dots 16 = .ok (.invokevirtual 129, 3) := by decide +kernel
theorem d_M_dots_19 : decode b_M_dots 19 = .ok (.invokestatic 86, 3) := by decide +kernel
theorem d_M_dots_22 : decode b_M_dots 22 = .ok (.ifCond .eq 21, 3) := by decide +kernel
theorem d_M_dots_25 : decode b_M_dots 25 = .ok (.lload_n 3, 1) := by decide +kernel
theorem d_M_dots_26 : decode b_M_dots 26 = .ok (.bipush 8, 2) := by decide +kernel
theorem d_M_dots_28 : decode b_M_dots 28 = .ok (.lshl, 1) := by decide +kernel
theorem d_M_dots_29 : decode b_M_dots 29 = .ok (.aload_n 0, 1) := by decide +kernel
theorem d_M_dots_30 : decode b_M_dots 30 = .ok (.iload_n 2, 1) := by decide +kernel
theorem d_M_dots_31 : decode b_M_dots 31 = .ok (.invokevirtual 129, 3) := by decide +kernel
theorem d_M_dots_34 : decode b_M_dots 34 = .ok (.i2l, 1) := by decide +kernel
theorem d_M_dots_35 : decode b_M_dots 35 = .ok (.lor, 1) := by decide +kernel
theorem d_M_dots_36 : decode b_M_dots 36 = .ok (.lstore_n 3, 1) := by decide +kernel
theorem d_M_dots_37 : decode b_M_dots 37 = .ok (.iinc 2 1, 3) := by decide +kernel
theorem d_M_dots_40 : decode b_M_dots 40 = .ok (.goto (-34), 3) := by decide +kernel
theorem d_M_dots_43 : decode b_M_dots 43 = .ok (.aload_n 0, 1) := by decide +kernel
theorem d_M_dots_44 : decode b_M_dots 44 = .ok (.iload_n 1, 1) := by decide +kernel
theorem d_M_dots_45 : decode b_M_dots 45 = .ok (.invokevirtual 129, 3) := by decide +kernel
theorem d_M_dots_48 : decode b_M_dots 48 = .ok (.bipush 46, 2) := by decide +kernel
theorem d_M_dots_50 : decode b_M_dots 50 = .ok (.if_icmp .ne 20, 3) := by decide +kernel
theorem d_M_dots_53 : decode b_M_dots 53 = .ok (.aload_n 0, 1) := by decide +kernel
theorem d_M_dots_54 : decode b_M_dots 54 = .ok (.iload_n 2, 1) := by decide +kernel
theorem d_M_dots_55 : decode b_M_dots 55 = .ok (.invokevirtual 129, 3) := by decide +kernel
theorem d_M_dots_58 : decode b_M_dots 58 = .ok (.bipush 46, 2) := by decide +kernel
theorem d_M_dots_60 : decode b_M_dots 60 = .ok (.if_icmp .ne 10, 3) := by decide +kernel
theorem d_M_dots_63 : decode b_M_dots 63 = .ok (.iload_n 2, 1) := by decide +kernel
theorem d_M_dots_64 : decode b_M_dots 64 = .ok (.iload_n 1, 1) := by decide +kernel
theorem d_M_dots_65 : decode b_M_dots 65 = .ok (.iconst 1, 1) := by decide +kernel
theorem d_M_dots_66 : decode b_M_dots 66 = .ok (.iadd, 1) := by decide +kernel
theorem d_M_dots_67 : decode b_M_dots 67 = .ok (.if_icmp .ne 5, 3) := by decide +kernel
theorem d_M_dots_70 : decode b_M_dots 70 = .ok (.iconst 0, 1) := by decide +kernel
theorem d_M_dots_71 : decode b_M_dots 71 = .ok (.ireturn, 1) := by decide +kernel
theorem d_M_dots_72 : decode b_M_dots 72 = .ok (.lload_n 3, 1) := by decide +kernel
theorem d_M_dots_73 : decode b_M_dots 73 = .ok (.ldc2_w 148, 3) := by decide +kernel
theorem d_M_dots_76 : decode b_M_dots 76 = .ok (.lcmp, 1) := by decide +kernel
theorem d_M_dots_77 : decode b_M_dots 77 = .ok (.ifCond .ne 5, 3) := by decide +kernel
theorem d_M_dots_80 : decode b_M_dots 80 = .ok (.iconst 1, 1) := by decide +kernel
theorem d_M_dots_81 : decode b_M_dots 81 = .ok (.ireturn, 1) := by decide +kernel
theorem d_M_dots_82 : decode b_M_dots 82 = .ok (.lload_n 3, 1) := by decide +kernel
theorem d_M_dots_83 : decode b_M_dots 83 = .ok (.ldc2_w 150, 3) := by decide +kernel
theorem d_M_dots_86 : decode b_M_dots 86 = .ok (.lcmp, 1) := by decide +kernel
theorem d_M_dots_87 : decode b_M_dots 87 = .ok (.ifCond .ne 5, 3) := by decide +kernel
theorem d_M_dots_90 : decode b_M_dots 90 = .ok (.iconst 2, 1) := by decide +kernel
theorem d_M_dots_91 : decode b_M_dots 91 = .ok (.ireturn, 1) := by decide +kernel
theorem d_M_dots_92 : decode b_M_dots 92 = .ok (.lload_n 3, 1) := by decide +kernel
theorem d_M_dots_93 : decode b_M_dots 93 = .ok (.ldc2_w 152, 3) := by decide +kernel
theorem d_M_dots_96 : decode b_M_dots 96 = .ok (.lcmp, 1) := by decide +kernel
theorem d_M_dots_97 : decode b_M_dots 97 = .ok (.ifCond .ne 5, 3) := by decide +kernel
theorem d_M_dots_100 : decode b_M_dots 100 = .ok (.iconst 3, 1) := by decide +kernel
theorem d_M_dots_101 : decode b_M_dots 101 = .ok (.ireturn, 1) := by decide +kernel
theorem d_M_dots_102 : decode b_M_dots 102 = .ok (.lload_n 3, 1) := by decide +kernel
theorem d_M_dots_103 : decode b_M_dots 103 = .ok (.ldc2_w 154, 3) := by decide +kernel
theorem d_M_dots_106 : decode b_M_dots 106 = .ok (.lcmp, 1) := by decide +kernel
theorem d_M_dots_107 : decode b_M_dots 107 = .ok (.ifCond .eq 11, 3) := by decide +kernel
theorem d_M_dots_110 : decode b_M_dots 110 = .ok (.lload_n 3, 1) := by decide +kernel
theorem d_M_dots_111 : decode b_M_dots 111 = .ok (.ldc2_w 156, 3) := by decide +kernel
theorem d_M_dots_114 : decode b_M_dots 114 = .ok (.lcmp, 1) := by decide +kernel
theorem d_M_dots_115 : decode b_M_dots 115 = .ok (.ifCond .ne 6, 3) := by decide +kernel
theorem d_M_dots_118 : decode b_M_dots 118 = .ok (.bipush 20, 2) := by decide +kernel
theorem d_M_dots_120 : decode b_M_dots 120 = .ok (.ireturn, 1) := by decide +kernel
theorem d_M_dots_121 : decode b_M_dots 121 = .ok (.lload_n 3, 1) := by decide +kernel
theorem d_M_dots_122 : decode b_M_dots 122 = .ok (.ldc2_w 158, 3) := by decide +kernel
theorem d_M_dots_125 : decode b_M_dots 125 = .ok (.lcmp, 1) := by decide +kernel
theorem d_M_dots_126 : decode b_M_dots 126 = .ok (.ifCond .eq 43, 3) := by decide +kernel
theorem d_M_dots_129 : decode b_M_dots 129 = .ok (.lload_n 3, 1) := by decide +kernel
theorem d_M_dots_130 : decode b_M_dots 130 = .ok (.ldc2_w 160, 3) := by decide +kernel
theorem d_M_dots_133 : decode b_M_dots 133 = .ok (.lcmp, 1) := by decide +kernel
theorem d_M_dots_134 : decode b_M_dots 134 = .ok (.ifCond .eq 35, 3) := by decide +kernel
theorem d_M_dots_137 : decode b_M_dots 137 = .ok (.lload_n 3, 1) := by decide +kernel
theorem d_M_dots_138 : decode b_M_dots 138 = .ok (.ldc2_w 162, 3) := by decide +kernel
theorem d_M_dots_141 : decode b_M_dots 141 = .ok (.lcmp, 1) := by decide +kernel
theorem d_M_dots_142 : decode b_M_dots 142 = .ok (.ifCond .eq 27, 3) := by decide +kernel
theorem d_M_dots_145 : decode b_M_dots 145 = .ok (.lload_n 3, 1) := by decide +kernel
theorem d_M_dots_146 : decode b_M_dots 146 = .ok (.ldc2_w 164, 3) := by decide +kernel
theorem d_M_dots_149 : decode b_M_dots 149 = .ok (.lcmp, 1) := by decide +kernel
theorem d_M_dots_150 : decode b_M_dots 150 = .ok (.ifCond .eq 19, 3) := by decide +kernel
theorem d_M_dots_153 : decode b_M_dots 153 = .ok (.lload_n 3, 1) := by decide +kernel
theorem d_M_dots_154 : decode b_M_dots 154 = .ok (.ldc2_w 166, 3) := by decide +kernel
theorem d_M_dots_157 : decode b_M_dots 157 = .ok (.lcmp, 1) := by decide +kernel
theorem d_M_dots_158 : decode b_M_dots 158 = .ok (.ifCond .eq 11, 3) := by decide +kernel
theorem d_M_dots_161 : decode b_M_dots 161 = .ok (.lload_n 3, 1) := by decide +kernel
theorem d_M_dots_162 : decode b_M_dots 162 = .ok (.ldc2_w 168, 3) := by decide +kernel
theorem d_M_dots_165 : decode b_M_dots 165 = .ok (.lcmp, 1) := by decide +kernel
theorem d_M_dots_166 : decode b_M_dots 166 = .ok (.ifCond .ne 7, 3) := by decide +kernel
theorem d_M_dots_169 : decode b_M_dots 169 = .ok (.iconst 1, 1) := by decide +kernel
theorem d_M_dots_170 : decode b_M_dots 170 = .ok (.goto 4, 3) := by decide +kernel
theorem d_M_dots_173 : decode b_M_dots 173 = .ok (.iconst 0, 1) := by decide +kernel
theorem d_M_dots_174 : decode b_M_dots 174 = .ok (.istore 5, 2) := by decide +kernel
theorem d_M_dots_176 : decode b_M_dots 176 = .ok (.iload 5, 2) := by decide +kernel
theorem d_M_dots_178 : decode b_M_dots 178 = .ok (.ifCond .eq 7, 3) := by decide +kernel
theorem d_M_dots_181 : decode b_M_dots 181 = .ok (.iconst 4, 1) := by decide +kernel
theorem d_M_dots_182 : decode b_M_dots 182 = .ok (.goto 4, 3) := by decide +kernel
theorem d_M_dots_185 : decode b_M_dots 185 = .ok (.iconst 0, 1) := by decide +kernel
theorem d_M_dots_186 : decode b_M_dots 186 = .ok (.ireturn, 1) := by decide +kernel
abbrev y_M_dotted : MethodName := ⟨"DeckFrontModel", "dotted", "(I)I"⟩
abbrev b_M_dotted : ByteArray := prog_8_method_26_code
abbrev w_M_dotted : List Cond := (Jvm.Cond.code ({ cls := "DeckFrontModel", name := "dotted", desc := "(I)I" } : Jvm.MethodName) prog_8_method_26_code (3 : Nat) (Option.some Jvm.ClassFile.FieldType.int)) :: wG
theorem d_M_dotted_0 : decode b_M_dotted 0 = .ok (.iload_n 1, 1) := by decide +kernel
theorem d_M_dotted_1 : decode b_M_dotted 1 = .ok (.iconst 1, 1) := by decide +kernel
theorem d_M_dotted_2 : decode b_M_dotted 2 = .ok (.iadd, 1) := by decide +kernel
theorem d_M_dotted_3 : decode b_M_dotted 3 = .ok (.istore_n 2, 1) := by decide +kernel
theorem d_M_dotted_4 : decode b_M_dotted 4 = .ok (.aload_n 0, 1) := by decide +kernel
theorem d_M_dotted_5 : decode b_M_dotted 5 = .ok (.iload_n 2, 1) := by decide +kernel
theorem d_M_dotted_6 : decode b_M_dotted 6 = .ok (.invokevirtual 129, 3) := by decide +kernel
theorem d_M_dotted_9 : decode b_M_dotted 9 = .ok (.bipush 46, 2) := by decide +kernel
theorem d_M_dotted_11 : decode b_M_dotted 11 = .ok (.if_icmp .eq 9, 3) := by decide +kernel
theorem d_M_dotted_14 : decode b_M_dotted 14 = .ok (.iinc 2 1, 3) := by decide +kernel
theorem d_M_dotted_17 : decode b_M_dotted 17 = .ok (.goto (-13), 3) := by decide +kernel
theorem d_M_dotted_20 : decode b_M_dotted 20 = .ok (.iload_n 2, 1) := by decide +kernel
theorem d_M_dotted_21 : decode b_M_dotted 21 = .ok (.iconst 1, 1) := by decide +kernel
theorem d_M_dotted_22 : decode b_M_dotted 22 = .ok (.iadd, 1) := by decide +kernel
theorem d_M_dotted_23 : decode b_M_dotted 23 = .ok (.ireturn, 1) := by decide +kernel
abbrev y_M_numberEnd : MethodName := ⟨"DeckFrontModel", "numberEnd", "(I)I"⟩
abbrev b_M_numberEnd : ByteArray := prog_8_method_27_code
abbrev w_M_numberEnd : List Cond := (Jvm.Cond.code ({ cls := "DeckFrontModel", name := "numberEnd", desc := "(I)I" } : Jvm.MethodName) prog_8_method_27_code (6 : Nat) (Option.some Jvm.ClassFile.FieldType.int)) :: wG
theorem d_M_numberEnd_0 : decode b_M_numberEnd 0 = .ok (.iload_n 1, 1) := by decide +kernel
theorem d_M_numberEnd_1 : decode b_M_numberEnd 1 = .ok (.istore_n 2, 1) := by decide +kernel
theorem d_M_numberEnd_2 : decode b_M_numberEnd 2 = .ok (.aload_n 0, 1) := by decide +kernel
theorem d_M_numberEnd_3 : decode b_M_numberEnd 3 = .ok (.iload_n 2, 1) := by decide +kernel
theorem d_M_numberEnd_4 : decode b_M_numberEnd 4 = .ok (.invokevirtual 129, 3) := by decide +kernel
theorem d_M_numberEnd_7 : decode b_M_numberEnd 7 = .ok (.invokestatic 90, 3) := by decide +kernel
theorem d_M_numberEnd_10 : decode b_M_numberEnd 10 = .ok (.ifCond .eq 9, 3) := by decide +kernel
theorem d_M_numberEnd_13 : decode b_M_numberEnd 13 = .ok (.iinc 2 1, 3) := by decide +kernel
theorem d_M_numberEnd_16 : decode b_M_numberEnd 16 = .ok (.goto (-14), 3) := by decide +kernel
theorem d_M_numberEnd_19 : decode b_M_numberEnd 19 = .ok (.iload_n 2, 1) := by decide +kernel
theorem d_M_numberEnd_20 : decode b_M_numberEnd 20 = .ok (.iload_n 1, 1) := by decide +kernel
theorem d_M_numberEnd_21 : decode b_M_numberEnd 21 = .ok (.if_icmp .le 7, 3) := by decide +kernel
theorem d_M_numberEnd_24 : decode b_M_numberEnd 24 = .ok (.iconst 1, 1) := by decide +kernel
theorem d_M_numberEnd_25 : decode b_M_numberEnd 25 = .ok (.goto 4, 3) := by decide +kernel
theorem d_M_numberEnd_28 : decode b_M_numberEnd 28 = .ok (.iconst 0, 1) := by decide +kernel
theorem d_M_numberEnd_29 : decode b_M_numberEnd 29 = .ok (.istore_n 3, 1) := by decide +kernel
theorem d_M_numberEnd_30 : decode b_M_numberEnd 30 = .ok (.iload_n 3, 1) := by decide +kernel
theorem d_M_numberEnd_31 : decode b_M_numberEnd 31 = .ok (.ifCond .eq 24, 3) := by decide +kernel
theorem d_M_numberEnd_34 : decode b_M_numberEnd 34 = .ok (.aload_n 0, 1) := by decide +kernel
theorem d_M_numberEnd_35 : decode b_M_numberEnd 35 = .ok (.iload_n 2, 1) := by decide +kernel
theorem d_M_numberEnd_36 : decode b_M_numberEnd 36 = .ok (.invokevirtual 129, 3) := by decide +kernel
theorem d_M_numberEnd_39 : decode b_M_numberEnd 39 = .ok (.bipush 46, 2) := by decide +kernel
theorem d_M_numberEnd_41 : decode b_M_numberEnd 41 = .ok (.if_icmp .ne 57, 3) := by decide +kernel
theorem d_M_numberEnd_44 : decode b_M_numberEnd 44 = .ok (.aload_n 0, 1) := by decide +kernel
theorem d_M_numberEnd_45 : decode b_M_numberEnd 45 = .ok (.iload_n 2, 1) := by decide +kernel
theorem d_M_numberEnd_46 : decode b_M_numberEnd 46 = .ok (.invokevirtual 170, 3) := by decide +kernel
theorem d_M_numberEnd_49 : decode b_M_numberEnd 49 = .ok (.ifCond .ne 49, 3) := by decide +kernel
theorem d_M_numberEnd_52 : decode b_M_numberEnd 52 = .ok (.goto 26, 3) := by decide +kernel
theorem d_M_numberEnd_55 : decode b_M_numberEnd 55 = .ok (.aload_n 0, 1) := by decide +kernel
theorem d_M_numberEnd_56 : decode b_M_numberEnd 56 = .ok (.iload_n 2, 1) := by decide +kernel
theorem d_M_numberEnd_57 : decode b_M_numberEnd 57 = .ok (.invokevirtual 129, 3) := by decide +kernel
theorem d_M_numberEnd_60 : decode b_M_numberEnd 60 = .ok (.bipush 46, 2) := by decide +kernel
theorem d_M_numberEnd_62 : decode b_M_numberEnd 62 = .ok (.if_icmp .ne 36, 3) := by decide +kernel
theorem d_M_numberEnd_65 : decode b_M_numberEnd 65 = .ok (.aload_n 0, 1) := by decide +kernel
theorem d_M_numberEnd_66 : decode b_M_numberEnd 66 = .ok (.iload_n 2, 1) := by decide +kernel
theorem d_M_numberEnd_67 : decode b_M_numberEnd 67 = .ok (.iconst 1, 1) := by decide +kernel
theorem d_M_numberEnd_68 : decode b_M_numberEnd 68 = .ok (.iadd, 1) := by decide +kernel
theorem d_M_numberEnd_69 : decode b_M_numberEnd 69 = .ok (.invokevirtual 129, 3) := by decide +kernel
theorem d_M_numberEnd_72 : decode b_M_numberEnd 72 = .ok (.invokestatic 90, 3) := by decide +kernel
theorem d_M_numberEnd_75 : decode b_M_numberEnd 75 = .ok (.ifCond .eq 23, 3) := by decide +kernel
theorem d_M_numberEnd_78 : decode b_M_numberEnd 78 = .ok (.iinc 2 1, 3) := by decide +kernel
theorem d_M_numberEnd_81 : decode b_M_numberEnd 81 = .ok (.aload_n 0, 1) := by decide +kernel
theorem d_M_numberEnd_82 : decode b_M_numberEnd 82 = .ok (.iload_n 2, 1) := by decide +kernel
theorem d_M_numberEnd_83 : decode b_M_numberEnd 83 = .ok (.invokevirtual 129, 3) := by decide +kernel
theorem d_M_numberEnd_86 : decode b_M_numberEnd 86 = .ok (.invokestatic 90, 3) := by decide +kernel
theorem d_M_numberEnd_89 : decode b_M_numberEnd 89 = .ok (.ifCond .eq 9, 3) := by decide +kernel
theorem d_M_numberEnd_92 : decode b_M_numberEnd 92 = .ok (.iinc 2 1, 3) := by decide +kernel
theorem d_M_numberEnd_95 : decode b_M_numberEnd 95 = .ok (.goto (-14), 3) := by decide +kernel
theorem d_M_numberEnd_98 : decode b_M_numberEnd 98 = .ok (.iload_n 2, 1) := by decide +kernel
theorem d_M_numberEnd_99 : decode b_M_numberEnd 99 = .ok (.iload_n 1, 1) := by decide +kernel
theorem d_M_numberEnd_100 : decode b_M_numberEnd 100 = .ok (.if_icmp .ne 5, 3) := by decide +kernel
theorem d_M_numberEnd_103 : decode b_M_numberEnd 103 = .ok (.iload_n 1, 1) := by decide +kernel
theorem d_M_numberEnd_104 : decode b_M_numberEnd 104 = .ok (.ireturn, 1) := by decide +kernel
theorem d_M_numberEnd_105 : decode b_M_numberEnd 105 = .ok (.iload_n 2, 1) := by decide +kernel
theorem d_M_numberEnd_106 : decode b_M_numberEnd 106 = .ok (.iconst 1, 1) := by decide +kernel
theorem d_M_numberEnd_107 : decode b_M_numberEnd 107 = .ok (.iadd, 1) := by decide +kernel
theorem d_M_numberEnd_108 : decode b_M_numberEnd 108 = .ok (.istore 4, 2) := by decide +kernel
theorem d_M_numberEnd_110 : decode b_M_numberEnd 110 = .ok (.aload_n 0, 1) := by decide +kernel
theorem d_M_numberEnd_111 : decode b_M_numberEnd 111 = .ok (.iload_n 2, 1) := by decide +kernel
theorem d_M_numberEnd_112 : decode b_M_numberEnd 112 = .ok (.invokevirtual 129, 3) := by decide +kernel
theorem d_M_numberEnd_115 : decode b_M_numberEnd 115 = .ok (.bipush 69, 2) := by decide +kernel
theorem d_M_numberEnd_117 : decode b_M_numberEnd 117 = .ok (.if_icmp .ne 72, 3) := by decide +kernel
theorem d_M_numberEnd_120 : decode b_M_numberEnd 120 = .ok (.aload_n 0, 1) := by decide +kernel
theorem d_M_numberEnd_121 : decode b_M_numberEnd 121 = .ok (.iload 4, 2) := by decide +kernel
theorem d_M_numberEnd_123 : decode b_M_numberEnd 123 = .ok (.invokevirtual 129, 3) := by decide +kernel
theorem d_M_numberEnd_126 : decode b_M_numberEnd 126 = .ok (.bipush 43, 2) := by decide +kernel
theorem d_M_numberEnd_128 : decode b_M_numberEnd 128 = .ok (.if_icmp .eq 14, 3) := by decide +kernel
theorem d_M_numberEnd_131 : decode b_M_numberEnd 131 = .ok (.aload_n 0, 1) := by decide +kernel
theorem d_M_numberEnd_132 : decode b_M_numberEnd 132 = .ok (.iload 4, 2) := by decide +kernel
theorem d_M_numberEnd_134 : decode b_M_numberEnd 134 = .ok (.invokevirtual 129, 3) := by decide +kernel
theorem d_M_numberEnd_137 : decode b_M_numberEnd 137 = .ok (.bipush 45, 2) := by decide +kernel
theorem d_M_numberEnd_139 : decode b_M_numberEnd 139 = .ok (.if_icmp .ne 10, 3) := by decide +kernel
theorem d_M_numberEnd_142 : decode b_M_numberEnd 142 = .ok (.iload 4, 2) := by decide +kernel
theorem d_M_numberEnd_144 : decode b_M_numberEnd 144 = .ok (.iconst 1, 1) := by decide +kernel
theorem d_M_numberEnd_145 : decode b_M_numberEnd 145 = .ok (.iadd, 1) := by decide +kernel
theorem d_M_numberEnd_146 : decode b_M_numberEnd 146 = .ok (.goto 5, 3) := by decide +kernel
theorem d_M_numberEnd_149 : decode b_M_numberEnd 149 = .ok (.iload 4, 2) := by decide +kernel
theorem d_M_numberEnd_151 : decode b_M_numberEnd 151 = .ok (.istore 4, 2) := by decide +kernel
theorem d_M_numberEnd_153 : decode b_M_numberEnd 153 = .ok (.iload 4, 2) := by decide +kernel
theorem d_M_numberEnd_155 : decode b_M_numberEnd 155 = .ok (.istore 5, 2) := by decide +kernel
theorem d_M_numberEnd_157 : decode b_M_numberEnd 157 = .ok (.aload_n 0, 1) := by decide +kernel
theorem d_M_numberEnd_158 : decode b_M_numberEnd 158 = .ok (.iload 5, 2) := by decide +kernel
theorem d_M_numberEnd_160 : decode b_M_numberEnd 160 = .ok (.invokevirtual 129, 3) := by decide +kernel
theorem d_M_numberEnd_163 : decode b_M_numberEnd 163 = .ok (.invokestatic 90, 3) := by decide +kernel
theorem d_M_numberEnd_166 : decode b_M_numberEnd 166 = .ok (.ifCond .eq 9, 3) := by decide +kernel
theorem d_M_numberEnd_169 : decode b_M_numberEnd 169 = .ok (.iinc 5 1, 3) := by decide +kernel
theorem d_M_numberEnd_172 : decode b_M_numberEnd 172 = .ok (.goto (-15), 3) := by decide +kernel
theorem d_M_numberEnd_175 : decode b_M_numberEnd 175 = .ok (.iload 5, 2) := by decide +kernel
theorem d_M_numberEnd_177 : decode b_M_numberEnd 177 = .ok (.iload 4, 2) := by decide +kernel
theorem d_M_numberEnd_179 : decode b_M_numberEnd 179 = .ok (.if_icmp .le 8, 3) := by decide +kernel
theorem d_M_numberEnd_182 : decode b_M_numberEnd 182 = .ok (.iload 5, 2) := by decide +kernel
theorem d_M_numberEnd_184 : decode b_M_numberEnd 184 = .ok (.goto 4, 3) := by decide +kernel
theorem d_M_numberEnd_187 : decode b_M_numberEnd 187 = .ok (.iload_n 2, 1) := by decide +kernel
theorem d_M_numberEnd_188 : decode b_M_numberEnd 188 = .ok (.istore_n 2, 1) := by decide +kernel
theorem d_M_numberEnd_189 : decode b_M_numberEnd 189 = .ok (.iload_n 2, 1) := by decide +kernel
theorem d_M_numberEnd_190 : decode b_M_numberEnd 190 = .ok (.ireturn, 1) := by decide +kernel
abbrev y_M_part : MethodName := ⟨"DeckFrontModel", "part", "(IIIII)I"⟩
abbrev b_M_part : ByteArray := prog_8_method_28_code
abbrev w_M_part : List Cond := (Jvm.Cond.code ({ cls := "DeckFrontModel", name := "part", desc := "(IIIII)I" } : Jvm.MethodName) prog_8_method_28_code (6 : Nat) (Option.some Jvm.ClassFile.FieldType.int)) :: wG
theorem d_M_part_0 : decode b_M_part 0 = .ok (.aload_n 0, 1) := by decide +kernel
theorem d_M_part_1 : decode b_M_part 1 = .ok (.getfield 54, 3) := by decide +kernel
theorem d_M_part_4 : decode b_M_part 4 = .ok (.aload_n 0, 1) := by decide +kernel
theorem d_M_part_5 : decode b_M_part 5 = .ok (.getfield 173, 3) := by decide +kernel
theorem d_M_part_8 : decode b_M_part 8 = .ok (.iload_n 1, 1) := by decide +kernel
theorem d_M_part_9 : decode b_M_part 9 = .ok (.iastore, 1) := by decide +kernel
theorem d_M_part_10 : decode b_M_part 10 = .ok (.aload_n 0, 1) := by decide +kernel
theorem d_M_part_11 : decode b_M_part 11 = .ok (.getfield 39, 3) := by decide +kernel
theorem d_M_part_14 : decode b_M_part 14 = .ok (.aload_n 0, 1) := by decide +kernel
theorem d_M_part_15 : decode b_M_part 15 = .ok (.getfield 173, 3) := by decide +kernel
theorem d_M_part_18 : decode b_M_part 18 = .ok (.iload_n 2, 1) := by decide +kernel
theorem d_M_part_19 : decode b_M_part 19 = .ok (.iastore, 1) := by decide +kernel
theorem d_M_part_20 : decode b_M_part 20 = .ok (.aload_n 0, 1) := by decide +kernel
theorem d_M_part_21 : decode b_M_part 21 = .ok (.getfield 42, 3) := by decide +kernel
theorem d_M_part_24 : decode b_M_part 24 = .ok (.aload_n 0, 1) := by decide +kernel
theorem d_M_part_25 : decode b_M_part 25 = .ok (.getfield 173, 3) := by decide +kernel
theorem d_M_part_28 : decode b_M_part 28 = .ok (.iload_n 3, 1) := by decide +kernel
theorem d_M_part_29 : decode b_M_part 29 = .ok (.iastore, 1) := by decide +kernel
theorem d_M_part_30 : decode b_M_part 30 = .ok (.aload_n 0, 1) := by decide +kernel
theorem d_M_part_31 : decode b_M_part 31 = .ok (.getfield 45, 3) := by decide +kernel
theorem d_M_part_34 : decode b_M_part 34 = .ok (.aload_n 0, 1) := by decide +kernel
theorem d_M_part_35 : decode b_M_part 35 = .ok (.getfield 173, 3) := by decide +kernel
theorem d_M_part_38 : decode b_M_part 38 = .ok (.iload 4, 2) := by decide +kernel
theorem d_M_part_40 : decode b_M_part 40 = .ok (.iastore, 1) := by decide +kernel
theorem d_M_part_41 : decode b_M_part 41 = .ok (.aload_n 0, 1) := by decide +kernel
theorem d_M_part_42 : decode b_M_part 42 = .ok (.getfield 48, 3) := by decide +kernel
theorem d_M_part_45 : decode b_M_part 45 = .ok (.aload_n 0, 1) := by decide +kernel
theorem d_M_part_46 : decode b_M_part 46 = .ok (.getfield 173, 3) := by decide +kernel
theorem d_M_part_49 : decode b_M_part 49 = .ok (.iload 5, 2) := by decide +kernel
theorem d_M_part_51 : decode b_M_part 51 = .ok (.iastore, 1) := by decide +kernel
theorem d_M_part_52 : decode b_M_part 52 = .ok (.aload_n 0, 1) := by decide +kernel
theorem d_M_part_53 : decode b_M_part 53 = .ok (.getfield 51, 3) := by decide +kernel
theorem d_M_part_56 : decode b_M_part 56 = .ok (.aload_n 0, 1) := by decide +kernel
theorem d_M_part_57 : decode b_M_part 57 = .ok (.getfield 173, 3) := by decide +kernel
theorem d_M_part_60 : decode b_M_part 60 = .ok (.iconst (-1), 1) := by decide +kernel
theorem d_M_part_61 : decode b_M_part 61 = .ok (.iastore, 1) := by decide +kernel
theorem d_M_part_62 : decode b_M_part 62 = .ok (.aload_n 0, 1) := by decide +kernel
theorem d_M_part_63 : decode b_M_part 63 = .ok (.dup, 1) := by decide +kernel
theorem d_M_part_64 : decode b_M_part 64 = .ok (.getfield 173, 3) := by decide +kernel
theorem d_M_part_67 : decode b_M_part 67 = .ok (.iconst 1, 1) := by decide +kernel
theorem d_M_part_68 : decode b_M_part 68 = .ok (.iadd, 1) := by decide +kernel
theorem d_M_part_69 : decode b_M_part 69 = .ok (.putfield 173, 3) := by decide +kernel
theorem d_M_part_72 : decode b_M_part 72 = .ok (.aload_n 0, 1) := by decide +kernel
theorem d_M_part_73 : decode b_M_part 73 = .ok (.getfield 173, 3) := by decide +kernel
theorem d_M_part_76 : decode b_M_part 76 = .ok (.iconst 1, 1) := by decide +kernel
theorem d_M_part_77 : decode b_M_part 77 = .ok (.isub, 1) := by decide +kernel
theorem d_M_part_78 : decode b_M_part 78 = .ok (.ireturn, 1) := by decide +kernel
abbrev y_M_value : MethodName := ⟨"DeckFrontModel", "value", "(I)V"⟩
abbrev b_M_value : ByteArray := prog_8_method_29_code
abbrev w_M_value : List Cond := (Jvm.Cond.code ({ cls := "DeckFrontModel", name := "value", desc := "(I)V" } : Jvm.MethodName) prog_8_method_29_code (2 : Nat) (Option.none : Option Jvm.ClassFile.FieldType)) :: wG
theorem d_M_value_0 : decode b_M_value 0 = .ok (.aload_n 0, 1) := by decide +kernel
theorem d_M_value_1 : decode b_M_value 1 = .ok (.getfield 57, 3) := by decide +kernel
theorem d_M_value_4 : decode b_M_value 4 = .ok (.aload_n 0, 1) := by decide +kernel
theorem d_M_value_5 : decode b_M_value 5 = .ok (.getfield 176, 3) := by decide +kernel
theorem d_M_value_8 : decode b_M_value 8 = .ok (.iload_n 1, 1) := by decide +kernel
theorem d_M_value_9 : decode b_M_value 9 = .ok (.iastore, 1) := by decide +kernel
theorem d_M_value_10 : decode b_M_value 10 = .ok (.aload_n 0, 1) := by decide +kernel
theorem d_M_value_11 : decode b_M_value 11 = .ok (.dup, 1) := by decide +kernel
theorem d_M_value_12 : decode b_M_value 12 = .ok (.getfield 176, 3) := by decide +kernel
theorem d_M_value_15 : decode b_M_value 15 = .ok (.iconst 1, 1) := by decide +kernel
theorem d_M_value_16 : decode b_M_value 16 = .ok (.iadd, 1) := by decide +kernel
theorem d_M_value_17 : decode b_M_value 17 = .ok (.putfield 176, 3) := by decide +kernel
theorem d_M_value_20 : decode b_M_value 20 = .ok (.return_, 1) := by decide +kernel
abbrev y_M_push : MethodName := ⟨"DeckFrontModel", "push", "(IIIZ)V"⟩
abbrev b_M_push : ByteArray := prog_8_method_30_code
abbrev w_M_push : List Cond := (Jvm.Cond.code ({ cls := "DeckFrontModel", name := "push", desc := "(IIIZ)V" } : Jvm.MethodName) prog_8_method_30_code (5 : Nat) (Option.none : Option Jvm.ClassFile.FieldType)) :: wG
theorem d_M_push_0 : decode b_M_push 0 = .ok (.aload_n 0, 1) := by decide +kernel
theorem d_M_push_1 : decode b_M_push 1 = .ok (.getfield 60, 3) := by decide +kernel
theorem d_M_push_4 : decode b_M_push 4 = .ok (.aload_n 0, 1) := by decide +kernel
theorem d_M_push_5 : decode b_M_push 5 = .ok (.getfield 179, 3) := by decide +kernel
theorem d_M_push_8 : decode b_M_push 8 = .ok (.iload_n 1, 1) := by decide +kernel
theorem d_M_push_9 : decode b_M_push 9 = .ok (.iastore, 1) := by decide +kernel
theorem d_M_push_10 : decode b_M_push 10 = .ok (.aload_n 0, 1) := by decide +kernel
theorem d_M_push_11 : decode b_M_push 11 = .ok (.getfield 63, 3) := by decide +kernel
theorem d_M_push_14 : decode b_M_push 14 = .ok (.aload_n 0, 1) := by decide +kernel
theorem d_M_push_15 : decode b_M_push 15 = .ok (.getfield 179, 3) := by decide +kernel
theorem d_M_push_18 : decode b_M_push 18 = .ok (.iload_n 2, 1) := by decide +kernel
theorem d_M_push_19 : decode b_M_push 19 = .ok (.iastore, 1) := by decide +kernel
theorem d_M_push_20 : decode b_M_push 20 = .ok (.aload_n 0, 1) := by decide +kernel
theorem d_M_push_21 : decode b_M_push 21 = .ok (.getfield 66, 3) := by decide +kernel
theorem d_M_push_24 : decode b_M_push 24 = .ok (.aload_n 0, 1) := by decide +kernel
theorem d_M_push_25 : decode b_M_push 25 = .ok (.getfield 179, 3) := by decide +kernel
theorem d_M_push_28 : decode b_M_push 28 = .ok (.iload_n 3, 1) := by decide +kernel
theorem d_M_push_29 : decode b_M_push 29 = .ok (.iastore, 1) := by decide +kernel
theorem d_M_push_30 : decode b_M_push 30 = .ok (.aload_n 0, 1) := by decide +kernel
theorem d_M_push_31 : decode b_M_push 31 = .ok (.getfield 69, 3) := by decide +kernel
theorem d_M_push_34 : decode b_M_push 34 = .ok (.aload_n 0, 1) := by decide +kernel
theorem d_M_push_35 : decode b_M_push 35 = .ok (.getfield 179, 3) := by decide +kernel
theorem d_M_push_38 : decode b_M_push 38 = .ok (.iload 4, 2) := by decide +kernel
theorem d_M_push_40 : decode b_M_push 40 = .ok (.bastore, 1) := by decide +kernel
theorem d_M_push_41 : decode b_M_push 41 = .ok (.aload_n 0, 1) := by decide +kernel
theorem d_M_push_42 : decode b_M_push 42 = .ok (.dup, 1) := by decide +kernel
theorem d_M_push_43 : decode b_M_push 43 = .ok (.getfield 179, 3) := by decide +kernel
theorem d_M_push_46 : decode b_M_push 46 = .ok (.iconst 1, 1) := by decide +kernel
theorem d_M_push_47 : decode b_M_push 47 = .ok (.iadd, 1) := by decide +kernel
theorem d_M_push_48 : decode b_M_push 48 = .ok (.putfield 179, 3) := by decide +kernel
theorem d_M_push_51 : decode b_M_push 51 = .ok (.return_, 1) := by decide +kernel
abbrev y_M_reduce : MethodName := ⟨"DeckFrontModel", "reduce", "(I)V"⟩
abbrev b_M_reduce : ByteArray := prog_8_method_31_code
abbrev w_M_reduce : List Cond := (Jvm.Cond.code ({ cls := "DeckFrontModel", name := "reduce", desc := "(I)V" } : Jvm.MethodName) prog_8_method_31_code (3 : Nat) (Option.none : Option Jvm.ClassFile.FieldType)) :: wG
theorem d_M_reduce_0 : decode b_M_reduce 0 = .ok (.aload_n 0, 1) := by decide +kernel
theorem d_M_reduce_1 : decode b_M_reduce 1 = .ok (.getfield 179, 3) := by decide +kernel
theorem d_M_reduce_4 : decode b_M_reduce 4 = .ok (.ifCond .le 158, 3) := by decide +kernel
theorem d_M_reduce_7 : decode b_M_reduce 7 = .ok (.aload_n 0, 1) := by decide +kernel
theorem d_M_reduce_8 : decode b_M_reduce 8 = .ok (.getfield 60, 3) := by decide +kernel
theorem d_M_reduce_11 : decode b_M_reduce 11 = .ok (.aload_n 0, 1) := by decide +kernel
theorem d_M_reduce_12 : decode b_M_reduce 12 = .ok (.getfield 179, 3) := by decide +kernel
theorem d_M_reduce_15 : decode b_M_reduce 15 = .ok (.iconst 1, 1) := by decide +kernel
theorem d_M_reduce_16 : decode b_M_reduce 16 = .ok (.isub, 1) := by decide +kernel
theorem d_M_reduce_17 : decode b_M_reduce 17 = .ok (.iaload, 1) := by decide +kernel
theorem d_M_reduce_18 : decode b_M_reduce 18 = .ok (.bipush 8, 2) := by decide +kernel
theorem d_M_reduce_20 : decode b_M_reduce 20 = .ok (.if_icmp .ge 142, 3) := by decide +kernel
theorem d_M_reduce_23 : decode b_M_reduce 23 = .ok (.aload_n 0, 1) := by decide +kernel
theorem d_M_reduce_24 : decode b_M_reduce 24 = .ok (.getfield 60, 3) := by decide +kernel
theorem d_M_reduce_27 : decode b_M_reduce 27 = .ok (.aload_n 0, 1) := by decide +kernel
theorem d_M_reduce_28 : decode b_M_reduce 28 = .ok (.getfield 179, 3) := by decide +kernel
theorem d_M_reduce_31 : decode b_M_reduce 31 = .ok (.iconst 1, 1) := by decide +kernel
theorem d_M_reduce_32 : decode b_M_reduce 32 = .ok (.isub, 1) := by decide +kernel
theorem d_M_reduce_33 : decode b_M_reduce 33 = .ok (.iaload, 1) := by decide +kernel
theorem d_M_reduce_34 : decode b_M_reduce 34 = .ok (.iload_n 1, 1) := by decide +kernel
theorem d_M_reduce_35 : decode b_M_reduce 35 = .ok (.if_icmp .lt 127, 3) := by decide +kernel
theorem d_M_reduce_38 : decode b_M_reduce 38 = .ok (.aload_n 0, 1) := by decide +kernel
theorem d_M_reduce_39 : decode b_M_reduce 39 = .ok (.dup, 1) := by decide +kernel
theorem d_M_reduce_40 : decode b_M_reduce 40 = .ok (.getfield 179, 3) := by decide +kernel
theorem d_M_reduce_43 : decode b_M_reduce 43 = .ok (.iconst 1, 1) := by decide +kernel
theorem d_M_reduce_44 : decode b_M_reduce 44 = .ok (.isub, 1) := by decide +kernel
theorem d_M_reduce_45 : decode b_M_reduce 45 = .ok (.putfield 179, 3) := by decide +kernel
theorem d_M_reduce_48 : decode b_M_reduce 48 = .ok (.aload_n 0, 1) := by decide +kernel
theorem d_M_reduce_49 : decode b_M_reduce 49 = .ok (.dup, 1) := by decide +kernel
theorem d_M_reduce_50 : decode b_M_reduce 50 = .ok (.getfield 176, 3) := by decide +kernel
theorem d_M_reduce_53 : decode b_M_reduce 53 = .ok (.iconst 1, 1) := by decide +kernel
theorem d_M_reduce_54 : decode b_M_reduce 54 = .ok (.isub, 1) := by decide +kernel
theorem d_M_reduce_55 : decode b_M_reduce 55 = .ok (.putfield 176, 3) := by decide +kernel
theorem d_M_reduce_58 : decode b_M_reduce 58 = .ok (.aload_n 0, 1) := by decide +kernel
theorem d_M_reduce_59 : decode b_M_reduce 59 = .ok (.getfield 57, 3) := by decide +kernel
theorem d_M_reduce_62 : decode b_M_reduce 62 = .ok (.aload_n 0, 1) := by decide +kernel
theorem d_M_reduce_63 : decode b_M_reduce 63 = .ok (.getfield 176, 3) := by decide +kernel
theorem d_M_reduce_66 : decode b_M_reduce 66 = .ok (.iaload, 1) := by decide +kernel
theorem d_M_reduce_67 : decode b_M_reduce 67 = .ok (.istore_n 2, 1) := by decide +kernel
theorem d_M_reduce_68 : decode b_M_reduce 68 = .ok (.aload_n 0, 1) := by decide +kernel
theorem d_M_reduce_69 : decode b_M_reduce 69 = .ok (.getfield 69, 3) := by decide +kernel
theorem d_M_reduce_72 : decode b_M_reduce 72 = .ok (.aload_n 0, 1) := by decide +kernel
theorem d_M_reduce_73 : decode b_M_reduce 73 = .ok (.getfield 179, 3) := by decide +kernel
theorem d_M_reduce_76 : decode b_M_reduce 76 = .ok (.baload, 1) := by decide +kernel
theorem d_M_reduce_77 : decode b_M_reduce 77 = .ok (.ifCond .eq 35, 3) := by decide +kernel
theorem d_M_reduce_80 : decode b_M_reduce 80 = .ok (.aload_n 0, 1) := by decide +kernel
theorem d_M_reduce_81 : decode b_M_reduce 81 = .ok (.aload_n 0, 1) := by decide +kernel
theorem d_M_reduce_82 : decode b_M_reduce 82 = .ok (.iconst 2, 1) := by decide +kernel
theorem d_M_reduce_83 : decode b_M_reduce 83 = .ok (.aload_n 0, 1) := by decide +kernel
theorem d_M_reduce_84 : decode b_M_reduce 84 = .ok (.getfield 63, 3) := by decide +kernel
theorem d_M_reduce_87 : decode b_M_reduce 87 = .ok (.aload_n 0, 1) := by decide +kernel
theorem d_M_reduce_88 : decode b_M_reduce 88 = .ok (.getfield 179, 3) := by decide +kernel
theorem d_M_reduce_91 : decode b_M_reduce 91 = .ok (.iaload, 1) := by decide +kernel
theorem d_M_reduce_92 : decode b_M_reduce 92 = .ok (.aload_n 0, 1) := by decide +kernel
theorem d_M_reduce_93 : decode b_M_reduce 93 = .ok (.getfield 66, 3) := by decide +kernel
theorem d_M_reduce_96 : decode b_M_reduce 96 = .ok (.aload_n 0, 1) := by decide +kernel
theorem d_M_reduce_97 : decode b_M_reduce 97 = .ok (.getfield 179, 3) := by decide +kernel
theorem d_M_reduce_100 : decode b_M_reduce 100 = .ok (.iaload, 1) := by decide +kernel
theorem d_M_reduce_101 : decode b_M_reduce 101 = .ok (.iload_n 2, 1) := by decide +kernel
theorem d_M_reduce_102 : decode b_M_reduce 102 = .ok (.iconst (-1), 1) := by decide +kernel
theorem d_M_reduce_103 : decode b_M_reduce 103 = .ok (.invokevirtual 182, 3) := by decide +kernel
theorem d_M_reduce_106 : decode b_M_reduce 106 = .ok (.invokevirtual 186, 3) := by decide +kernel
theorem d_M_reduce_109 : decode b_M_reduce 109 = .ok (.goto 50, 3) := by decide +kernel
theorem d_M_reduce_112 : decode b_M_reduce 112 = .ok (.aload_n 0, 1) := by decide +kernel
theorem d_M_reduce_113 : decode b_M_reduce 113 = .ok (.dup, 1) := by decide +kernel
theorem d_M_reduce_114 : decode b_M_reduce 114 = .ok (.getfield 176, 3) := by decide +kernel
theorem d_M_reduce_117 : decode b_M_reduce 117 = .ok (.iconst 1, 1) := by decide +kernel
theorem d_M_reduce_118 : decode b_M_reduce 118 = .ok (.isub, 1) := by decide +kernel
theorem d_M_reduce_119 : decode b_M_reduce 119 = .ok (.putfield 176, 3) := by decide +kernel
theorem d_M_reduce_122 : decode b_M_reduce 122 = .ok (.aload_n 0, 1) := by decide +kernel
theorem d_M_reduce_123 : decode b_M_reduce 123 = .ok (.aload_n 0, 1) := by decide +kernel
theorem d_M_reduce_124 : decode b_M_reduce 124 = .ok (.iconst 1, 1) := by decide +kernel
theorem d_M_reduce_125 : decode b_M_reduce 125 = .ok (.aload_n 0, 1) := by decide +kernel
theorem d_M_reduce_126 : decode b_M_reduce 126 = .ok (.getfield 63, 3) := by decide +kernel
theorem d_M_reduce_129 : decode b_M_reduce 129 = .ok (.aload_n 0, 1) := by decide +kernel
theorem d_M_reduce_130 : decode b_M_reduce 130 = .ok (.getfield 179, 3) := by decide +kernel
theorem d_M_reduce_133 : decode b_M_reduce 133 = .ok (.iaload, 1) := by decide +kernel
theorem d_M_reduce_134 : decode b_M_reduce 134 = .ok (.aload_n 0, 1) := by decide +kernel
theorem d_M_reduce_135 : decode b_M_reduce 135 = .ok (.getfield 66, 3) := by decide +kernel
theorem d_M_reduce_138 : decode b_M_reduce 138 = .ok (.aload_n 0, 1) := by decide +kernel
theorem d_M_reduce_139 : decode b_M_reduce 139 = .ok (.getfield 179, 3) := by decide +kernel
theorem d_M_reduce_142 : decode b_M_reduce 142 = .ok (.iaload, 1) := by decide +kernel
theorem d_M_reduce_143 : decode b_M_reduce 143 = .ok (.aload_n 0, 1) := by decide +kernel
theorem d_M_reduce_144 : decode b_M_reduce 144 = .ok (.getfield 57, 3) := by decide +kernel
theorem d_M_reduce_147 : decode b_M_reduce 147 = .ok (.aload_n 0, 1) := by decide +kernel
theorem d_M_reduce_148 : decode b_M_reduce 148 = .ok (.getfield 176, 3) := by decide +kernel
theorem d_M_reduce_151 : decode b_M_reduce 151 = .ok (.iaload, 1) := by decide +kernel
theorem d_M_reduce_152 : decode b_M_reduce 152 = .ok (.iload_n 2, 1) := by decide +kernel
theorem d_M_reduce_153 : decode b_M_reduce 153 = .ok (.invokevirtual 182, 3) := by decide +kernel
theorem d_M_reduce_156 : decode b_M_reduce 156 = .ok (.invokevirtual 186, 3) := by decide +kernel
theorem d_M_reduce_159 : decode b_M_reduce 159 = .ok (.goto (-159), 3) := by decide +kernel
theorem d_M_reduce_162 : decode b_M_reduce 162 = .ok (.return_, 1) := by decide +kernel
abbrev y_M_joins : MethodName := ⟨"DeckFrontModel", "joins", "()V"⟩
abbrev b_M_joins : ByteArray := prog_8_method_32_code
abbrev w_M_joins : List Cond := (Jvm.Cond.code ({ cls := "DeckFrontModel", name := "joins", desc := "()V" } : Jvm.MethodName) prog_8_method_32_code (3 : Nat) (Option.none : Option Jvm.ClassFile.FieldType)) :: wG
theorem d_M_joins_0 : decode b_M_joins 0 = .ok (.aload_n 0, 1) := by decide +kernel
theorem d_M_joins_1 : decode b_M_joins 1 = .ok (.dup, 1) := by decide +kernel
theorem d_M_joins_2 : decode b_M_joins 2 = .ok (.getfield 176, 3) := by decide +kernel
theorem d_M_joins_5 : decode b_M_joins 5 = .ok (.iconst 1, 1) := by decide +kernel
theorem d_M_joins_6 : decode b_M_joins 6 = .ok (.isub, 1) := by decide +kernel
theorem d_M_joins_7 : decode b_M_joins 7 = .ok (.putfield 176, 3) := by decide +kernel
theorem d_M_joins_10 : decode b_M_joins 10 = .ok (.aload_n 0, 1) := by decide +kernel
theorem d_M_joins_11 : decode b_M_joins 11 = .ok (.getfield 57, 3) := by decide +kernel
theorem d_M_joins_14 : decode b_M_joins 14 = .ok (.aload_n 0, 1) := by decide +kernel
theorem d_M_joins_15 : decode b_M_joins 15 = .ok (.getfield 176, 3) := by decide +kernel
theorem d_M_joins_18 : decode b_M_joins 18 = .ok (.iaload, 1) := by decide +kernel
theorem d_M_joins_19 : decode b_M_joins 19 = .ok (.istore_n 1, 1) := by decide +kernel
theorem d_M_joins_20 : decode b_M_joins 20 = .ok (.aload_n 0, 1) := by decide +kernel
theorem d_M_joins_21 : decode b_M_joins 21 = .ok (.getfield 57, 3) := by decide +kernel
theorem d_M_joins_24 : decode b_M_joins 24 = .ok (.aload_n 0, 1) := by decide +kernel
theorem d_M_joins_25 : decode b_M_joins 25 = .ok (.getfield 176, 3) := by decide +kernel
theorem d_M_joins_28 : decode b_M_joins 28 = .ok (.iconst 1, 1) := by decide +kernel
theorem d_M_joins_29 : decode b_M_joins 29 = .ok (.isub, 1) := by decide +kernel
theorem d_M_joins_30 : decode b_M_joins 30 = .ok (.iaload, 1) := by decide +kernel
theorem d_M_joins_31 : decode b_M_joins 31 = .ok (.istore_n 2, 1) := by decide +kernel
theorem d_M_joins_32 : decode b_M_joins 32 = .ok (.aload_n 0, 1) := by decide +kernel
theorem d_M_joins_33 : decode b_M_joins 33 = .ok (.getfield 45, 3) := by decide +kernel
theorem d_M_joins_36 : decode b_M_joins 36 = .ok (.iload_n 2, 1) := by decide +kernel
theorem d_M_joins_37 : decode b_M_joins 37 = .ok (.iaload, 1) := by decide +kernel
theorem d_M_joins_38 : decode b_M_joins 38 = .ok (.ifCond .ge 13, 3) := by decide +kernel
theorem d_M_joins_41 : decode b_M_joins 41 = .ok (.aload_n 0, 1) := by decide +kernel
theorem d_M_joins_42 : decode b_M_joins 42 = .ok (.getfield 45, 3) := by decide +kernel
theorem d_M_joins_45 : decode b_M_joins 45 = .ok (.iload_n 2, 1) := by decide +kernel
theorem d_M_joins_46 : decode b_M_joins 46 = .ok (.iload_n 1, 1) := by decide +kernel
theorem d_M_joins_47 : decode b_M_joins 47 = .ok (.iastore, 1) := by decide +kernel
theorem d_M_joins_48 : decode b_M_joins 48 = .ok (.goto 15, 3) := by decide +kernel
theorem d_M_joins_51 : decode b_M_joins 51 = .ok (.aload_n 0, 1) := by decide +kernel
theorem d_M_joins_52 : decode b_M_joins 52 = .ok (.getfield 51, 3) := by decide +kernel
theorem d_M_joins_55 : decode b_M_joins 55 = .ok (.aload_n 0, 1) := by decide +kernel
theorem d_M_joins_56 : decode b_M_joins 56 = .ok (.getfield 48, 3) := by decide +kernel
theorem d_M_joins_59 : decode b_M_joins 59 = .ok (.iload_n 2, 1) := by decide +kernel
theorem d_M_joins_60 : decode b_M_joins 60 = .ok (.iaload, 1) := by decide +kernel
theorem d_M_joins_61 : decode b_M_joins 61 = .ok (.iload_n 1, 1) := by decide +kernel
theorem d_M_joins_62 : decode b_M_joins 62 = .ok (.iastore, 1) := by decide +kernel
theorem d_M_joins_63 : decode b_M_joins 63 = .ok (.aload_n 0, 1) := by decide +kernel
theorem d_M_joins_64 : decode b_M_joins 64 = .ok (.getfield 48, 3) := by decide +kernel
theorem d_M_joins_67 : decode b_M_joins 67 = .ok (.iload_n 2, 1) := by decide +kernel
theorem d_M_joins_68 : decode b_M_joins 68 = .ok (.iload_n 1, 1) := by decide +kernel
theorem d_M_joins_69 : decode b_M_joins 69 = .ok (.iastore, 1) := by decide +kernel
theorem d_M_joins_70 : decode b_M_joins 70 = .ok (.return_, 1) := by decide +kernel

abbrev y_M_simple : MethodName := ⟨"DeckFrontModel", "simple", "(I)Z"⟩
abbrev b_M_simple : ByteArray := prog_8_method_49_code
abbrev w_M_simple : List Cond := (Jvm.Cond.code ({ cls := "DeckFrontModel", name := "simple", desc := "(I)Z" } : Jvm.MethodName) prog_8_method_49_code (2 : Nat) (Option.some Jvm.ClassFile.FieldType.boolean)) :: wG
theorem d_M_simple_0 : decode b_M_simple 0 = .ok (.iload_n 1, 1) := by decide +kernel
theorem d_M_simple_1 : decode b_M_simple 1 = .ok (.tableswitch 223 1 17 #[83, 88, 93, 223, 101, 109, 118, 127, 136, 141, 146, 155, 164, 199, 208, 213, 218], 83) := by decide +kernel
theorem d_M_simple_84 : decode b_M_simple 84 = .ok (.aload_n 0, 1) := by decide +kernel
theorem d_M_simple_85 : decode b_M_simple 85 = .ok (.invokevirtual 264, 3) := by decide +kernel
theorem d_M_simple_88 : decode b_M_simple 88 = .ok (.ireturn, 1) := by decide +kernel
theorem d_M_simple_89 : decode b_M_simple 89 = .ok (.aload_n 0, 1) := by decide +kernel
theorem d_M_simple_90 : decode b_M_simple 90 = .ok (.invokevirtual 267, 3) := by decide +kernel
theorem d_M_simple_93 : decode b_M_simple 93 = .ok (.ireturn, 1) := by decide +kernel
theorem d_M_simple_94 : decode b_M_simple 94 = .ok (.aload_n 0, 1) := by decide +kernel
theorem d_M_simple_95 : decode b_M_simple 95 = .ok (.ldc2_w 270, 3) := by decide +kernel
theorem d_M_simple_98 : decode b_M_simple 98 = .ok (.invokevirtual 272, 3) := by decide +kernel
theorem d_M_simple_101 : decode b_M_simple 101 = .ok (.ireturn, 1) := by decide +kernel
theorem d_M_simple_102 : decode b_M_simple 102 = .ok (.aload_n 0, 1) := by decide +kernel
theorem d_M_simple_103 : decode b_M_simple 103 = .ok (.ldc2_w 275, 3) := by decide +kernel
theorem d_M_simple_106 : decode b_M_simple 106 = .ok (.invokevirtual 272, 3) := by decide +kernel
theorem d_M_simple_109 : decode b_M_simple 109 = .ok (.ireturn, 1) := by decide +kernel
theorem d_M_simple_110 : decode b_M_simple 110 = .ok (.aload_n 0, 1) := by decide +kernel
theorem d_M_simple_111 : decode b_M_simple 111 = .ok (.ldc2_w 277, 3) := by decide +kernel
theorem d_M_simple_114 : decode b_M_simple 114 = .ok (.iconst 0, 1) := by decide +kernel
theorem d_M_simple_115 : decode b_M_simple 115 = .ok (.invokevirtual 279, 3) := by decide +kernel
theorem d_M_simple_118 : decode b_M_simple 118 = .ok (.ireturn, 1) := by decide +kernel
theorem d_M_simple_119 : decode b_M_simple 119 = .ok (.aload_n 0, 1) := by decide +kernel
theorem d_M_simple_120 : decode b_M_simple 120 = .ok (.ldc2_w 283, 3) := by decide +kernel
theorem d_M_simple_123 : decode b_M_simple 123 = .ok (.iconst 0, 1) := by decide +kernel
theorem d_M_simple_124 : decode b_M_simple 124 = .ok (.invokevirtual 279, 3) := by decide +kernel
theorem d_M_simple_127 : decode b_M_simple 127 = .ok (.ireturn, 1) := by decide +kernel
theorem d_M_simple_128 : decode b_M_simple 128 = .ok (.aload_n 0, 1) := by decide +kernel
theorem d_M_simple_129 : decode b_M_simple 129 = .ok (.ldc2_w 285, 3) := by decide +kernel
theorem d_M_simple_132 : decode b_M_simple 132 = .ok (.iconst 0, 1) := by decide +kernel
theorem d_M_simple_133 : decode b_M_simple 133 = .ok (.invokevirtual 279, 3) := by decide +kernel
theorem d_M_simple_136 : decode b_M_simple 136 = .ok (.ireturn, 1) := by decide +kernel
theorem d_M_simple_137 : decode b_M_simple 137 = .ok (.aload_n 0, 1) := by decide +kernel
theorem d_M_simple_138 : decode b_M_simple 138 = .ok (.invokevirtual 287, 3) := by decide +kernel
theorem d_M_simple_141 : decode b_M_simple 141 = .ok (.ireturn, 1) := by decide +kernel
theorem d_M_simple_142 : decode b_M_simple 142 = .ok (.aload_n 0, 1) := by decide +kernel
theorem d_M_simple_143 : decode b_M_simple 143 = .ok (.invokevirtual 290, 3) := by decide +kernel
theorem d_M_simple_146 : decode b_M_simple 146 = .ok (.ireturn, 1) := by decide +kernel
theorem d_M_simple_147 : decode b_M_simple 147 = .ok (.aload_n 0, 1) := by decide +kernel
theorem d_M_simple_148 : decode b_M_simple 148 = .ok (.ldc2_w 293, 3) := by decide +kernel
theorem d_M_simple_151 : decode b_M_simple 151 = .ok (.iconst 0, 1) := by decide +kernel
theorem d_M_simple_152 : decode b_M_simple 152 = .ok (.invokevirtual 279, 3) := by decide +kernel
theorem d_M_simple_155 : decode b_M_simple 155 = .ok (.ireturn, 1) := by decide +kernel
theorem d_M_simple_156 : decode b_M_simple 156 = .ok (.aload_n 0, 1) := by decide +kernel
theorem d_M_simple_157 : decode b_M_simple 157 = .ok (.ldc2_w 295, 3) := by decide +kernel
theorem d_M_simple_160 : decode b_M_simple 160 = .ok (.iconst 0, 1) := by decide +kernel
theorem d_M_simple_161 : decode b_M_simple 161 = .ok (.invokevirtual 279, 3) := by decide +kernel
theorem d_M_simple_164 : decode b_M_simple 164 = .ok (.ireturn, 1) := by decide +kernel
theorem d_M_simple_165 : decode b_M_simple 165 = .ok (.aload_n 0, 1) := by decide +kernel
theorem d_M_simple_166 : decode b_M_simple 166 = .ok (.ldc2_w 297, 3) := by decide +kernel
theorem d_M_simple_169 : decode b_M_simple 169 = .ok (.invokevirtual 234, 3) := by decide +kernel
theorem d_M_simple_172 : decode b_M_simple 172 = .ok (.ifCond .eq 26, 3) := by decide +kernel
theorem d_M_simple_175 : decode b_M_simple 175 = .ok (.aload_n 0, 1) := by decide +kernel
theorem d_M_simple_176 : decode b_M_simple 176 = .ok (.iconst 0, 1) := by decide +kernel
theorem d_M_simple_177 : decode b_M_simple 177 = .ok (.invokevirtual 229, 3) := by decide +kernel
theorem d_M_simple_180 : decode b_M_simple 180 = .ok (.ifCond .eq 18, 3) := by decide +kernel
theorem d_M_simple_183 : decode b_M_simple 183 = .ok (.aload_n 0, 1) := by decide +kernel
theorem d_M_simple_184 : decode b_M_simple 184 = .ok (.getfield 126, 3) := by decide +kernel
theorem d_M_simple_187 : decode b_M_simple 187 = .ok (.aload_n 0, 1) := by decide +kernel
theorem d_M_simple_188 : decode b_M_simple 188 = .ok (.getfield 116, 3) := by decide +kernel
theorem d_M_simple_191 : decode b_M_simple 191 = .ok (.if_icmp .ne 7, 3) := by decide +kernel
theorem d_M_simple_194 : decode b_M_simple 194 = .ok (.iconst 1, 1) := by decide +kernel
theorem d_M_simple_195 : decode b_M_simple 195 = .ok (.goto 4, 3) := by decide +kernel
theorem d_M_simple_198 : decode b_M_simple 198 = .ok (.iconst 0, 1) := by decide +kernel
theorem d_M_simple_199 : decode b_M_simple 199 = .ok (.ireturn, 1) := by decide +kernel
theorem d_M_simple_200 : decode b_M_simple 200 = .ok (.aload_n 0, 1) := by decide +kernel
theorem d_M_simple_201 : decode b_M_simple 201 = .ok (.ldc2_w 299, 3) := by decide +kernel
theorem d_M_simple_204 : decode b_M_simple 204 = .ok (.iconst 0, 1) := by decide +kernel
theorem d_M_simple_205 : decode b_M_simple 205 = .ok (.invokevirtual 279, 3) := by decide +kernel
theorem d_M_simple_208 : decode b_M_simple 208 = .ok (.ireturn, 1) := by decide +kernel
theorem d_M_simple_209 : decode b_M_simple 209 = .ok (.aload_n 0, 1) := by decide +kernel
theorem d_M_simple_210 : decode b_M_simple 210 = .ok (.invokevirtual 301, 3) := by decide +kernel
theorem d_M_simple_213 : decode b_M_simple 213 = .ok (.ireturn, 1) := by decide +kernel
theorem d_M_simple_214 : decode b_M_simple 214 = .ok (.aload_n 0, 1) := by decide +kernel
theorem d_M_simple_215 : decode b_M_simple 215 = .ok (.invokevirtual 304, 3) := by decide +kernel
theorem d_M_simple_218 : decode b_M_simple 218 = .ok (.ireturn, 1) := by decide +kernel
theorem d_M_simple_219 : decode b_M_simple 219 = .ok (.aload_n 0, 1) := by decide +kernel
theorem d_M_simple_220 : decode b_M_simple 220 = .ok (.invokevirtual 307, 3) := by decide +kernel
theorem d_M_simple_223 : decode b_M_simple 223 = .ok (.ireturn, 1) := by decide +kernel
theorem d_M_simple_224 : decode b_M_simple 224 = .ok (.iconst 0, 1) := by decide +kernel
theorem d_M_simple_225 : decode b_M_simple 225 = .ok (.ireturn, 1) := by decide +kernel
abbrev y_M_mayFollow : MethodName := ⟨"DeckFrontModel", "mayFollow", "(I)Z"⟩
abbrev b_M_mayFollow : ByteArray := prog_8_method_50_code
abbrev w_M_mayFollow : List Cond := (Jvm.Cond.code ({ cls := "DeckFrontModel", name := "mayFollow", desc := "(I)Z" } : Jvm.MethodName) prog_8_method_50_code (1 : Nat) (Option.some Jvm.ClassFile.FieldType.boolean)) :: wG
theorem d_M_mayFollow_0 : decode b_M_mayFollow 0 = .ok (.iload_n 0, 1) := by decide +kernel
theorem d_M_mayFollow_1 : decode b_M_mayFollow 1 = .ok (.iconst 2, 1) := by decide +kernel
theorem d_M_mayFollow_2 : decode b_M_mayFollow 2 = .ok (.if_icmp .eq 21, 3) := by decide +kernel
theorem d_M_mayFollow_5 : decode b_M_mayFollow 5 = .ok (.iload_n 0, 1) := by decide +kernel
theorem d_M_mayFollow_6 : decode b_M_mayFollow 6 = .ok (.bipush 8, 2) := by decide +kernel
theorem d_M_mayFollow_8 : decode b_M_mayFollow 8 = .ok (.if_icmp .le 9, 3) := by decide +kernel
theorem d_M_mayFollow_11 : decode b_M_mayFollow 11 = .ok (.iload_n 0, 1) := by decide +kernel
theorem d_M_mayFollow_12 : decode b_M_mayFollow 12 = .ok (.bipush 14, 2) := by decide +kernel
theorem d_M_mayFollow_14 : decode b_M_mayFollow 14 = .ok (.if_icmp .lt 9, 3) := by decide +kernel
theorem d_M_mayFollow_17 : decode b_M_mayFollow 17 = .ok (.iload_n 0, 1) := by decide +kernel
theorem d_M_mayFollow_18 : decode b_M_mayFollow 18 = .ok (.bipush 17, 2) := by decide +kernel
theorem d_M_mayFollow_20 : decode b_M_mayFollow 20 = .ok (.if_icmp .ne 7, 3) := by decide +kernel
theorem d_M_mayFollow_23 : decode b_M_mayFollow 23 = .ok (.iconst 1, 1) := by decide +kernel
theorem d_M_mayFollow_24 : decode b_M_mayFollow 24 = .ok (.goto 4, 3) := by decide +kernel
theorem d_M_mayFollow_27 : decode b_M_mayFollow 27 = .ok (.iconst 0, 1) := by decide +kernel
theorem d_M_mayFollow_28 : decode b_M_mayFollow 28 = .ok (.ireturn, 1) := by decide +kernel
abbrev y_M_behind : MethodName := ⟨"DeckFrontModel", "behind", "()I"⟩
abbrev b_M_behind : ByteArray := prog_8_method_51_code
abbrev w_M_behind : List Cond := (Jvm.Cond.code ({ cls := "DeckFrontModel", name := "behind", desc := "()I" } : Jvm.MethodName) prog_8_method_51_code (5 : Nat) (Option.some Jvm.ClassFile.FieldType.int)) :: wG
theorem d_M_behind_0 : decode b_M_behind 0 = .ok (.aload_n 0, 1) := by decide +kernel
theorem d_M_behind_1 : decode b_M_behind 1 = .ok (.getfield 126, 3) := by decide +kernel
theorem d_M_behind_4 : decode b_M_behind 4 = .ok (.istore_n 1, 1) := by decide +kernel
theorem d_M_behind_5 : decode b_M_behind 5 = .ok (.aload_n 0, 1) := by decide +kernel
theorem d_M_behind_6 : decode b_M_behind 6 = .ok (.getfield 119, 3) := by decide +kernel
theorem d_M_behind_9 : decode b_M_behind 9 = .ok (.istore_n 2, 1) := by decide +kernel
theorem d_M_behind_10 : decode b_M_behind 10 = .ok (.aload_n 0, 1) := by decide +kernel
theorem d_M_behind_11 : decode b_M_behind 11 = .ok (.getfield 138, 3) := by decide +kernel
theorem d_M_behind_14 : decode b_M_behind 14 = .ok (.istore_n 3, 1) := by decide +kernel
theorem d_M_behind_15 : decode b_M_behind 15 = .ok (.iconst 1, 1) := by decide +kernel
theorem d_M_behind_16 : decode b_M_behind 16 = .ok (.istore 4, 2) := by decide +kernel
theorem d_M_behind_18 : decode b_M_behind 18 = .ok (.iload 4, 2) := by decide +kernel
theorem d_M_behind_20 : decode b_M_behind 20 = .ok (.bipush 18, 2) := by decide +kernel
theorem d_M_behind_22 : decode b_M_behind 22 = .ok (.if_icmp .ge 53, 3) := by decide +kernel
theorem d_M_behind_25 : decode b_M_behind 25 = .ok (.aload_n 0, 1) := by decide +kernel
theorem d_M_behind_26 : decode b_M_behind 26 = .ok (.iload_n 1, 1) := by decide +kernel
theorem d_M_behind_27 : decode b_M_behind 27 = .ok (.putfield 126, 3) := by decide +kernel
theorem d_M_behind_30 : decode b_M_behind 30 = .ok (.aload_n 0, 1) := by decide +kernel
theorem d_M_behind_31 : decode b_M_behind 31 = .ok (.iload_n 2, 1) := by decide +kernel
theorem d_M_behind_32 : decode b_M_behind 32 = .ok (.putfield 119, 3) := by decide +kernel
theorem d_M_behind_35 : decode b_M_behind 35 = .ok (.aload_n 0, 1) := by decide +kernel
theorem d_M_behind_36 : decode b_M_behind 36 = .ok (.iload_n 3, 1) := by decide +kernel
theorem d_M_behind_37 : decode b_M_behind 37 = .ok (.putfield 138, 3) := by decide +kernel
theorem d_M_behind_40 : decode b_M_behind 40 = .ok (.aload_n 0, 1) := by decide +kernel
theorem d_M_behind_41 : decode b_M_behind 41 = .ok (.iconst 0, 1) := by decide +kernel
theorem d_M_behind_42 : decode b_M_behind 42 = .ok (.putfield 244, 3) := by decide +kernel
theorem d_M_behind_45 : decode b_M_behind 45 = .ok (.aload_n 0, 1) := by decide +kernel
theorem d_M_behind_46 : decode b_M_behind 46 = .ok (.iload 4, 2) := by decide +kernel
theorem d_M_behind_48 : decode b_M_behind 48 = .ok (.invokevirtual 310, 3) := by decide +kernel
theorem d_M_behind_51 : decode b_M_behind 51 = .ok (.ifCond .eq 18, 3) := by decide +kernel
theorem d_M_behind_54 : decode b_M_behind 54 = .ok (.iload 4, 2) := by decide +kernel
theorem d_M_behind_56 : decode b_M_behind 56 = .ok (.invokestatic 313, 3) := by decide +kernel
theorem d_M_behind_59 : decode b_M_behind 59 = .ok (.ifCond .eq 8, 3) := by decide +kernel
theorem d_M_behind_62 : decode b_M_behind 62 = .ok (.iload 4, 2) := by decide +kernel
theorem d_M_behind_64 : decode b_M_behind 64 = .ok (.goto 4, 3) := by decide +kernel
theorem d_M_behind_67 : decode b_M_behind 67 = .ok (.iconst 0, 1) := by decide +kernel
theorem d_M_behind_68 : decode b_M_behind 68 = .ok (.ireturn, 1) := by decide +kernel
theorem d_M_behind_69 : decode b_M_behind 69 = .ok (.iinc 4 1, 3) := by decide +kernel
theorem d_M_behind_72 : decode b_M_behind 72 = .ok (.goto (-54), 3) := by decide +kernel
theorem d_M_behind_75 : decode b_M_behind 75 = .ok (.iconst 0, 1) := by decide +kernel
theorem d_M_behind_76 : decode b_M_behind 76 = .ok (.ireturn, 1) := by decide +kernel
abbrev y_M_isIf : MethodName := ⟨"DeckFrontModel", "isIf", "()Z"⟩
abbrev b_M_isIf : ByteArray := prog_8_method_52_code
abbrev w_M_isIf : List Cond := (Jvm.Cond.code ({ cls := "DeckFrontModel", name := "isIf", desc := "()Z" } : Jvm.MethodName) prog_8_method_52_code (1 : Nat) (Option.some Jvm.ClassFile.FieldType.boolean)) :: wG
theorem d_M_isIf_0 : decode b_M_isIf 0 = .ok (.aload_n 0, 1) := by decide +kernel
theorem d_M_isIf_1 : decode b_M_isIf 1 = .ok (.ldc2_w 270, 3) := by decide +kernel
theorem d_M_isIf_4 : decode b_M_isIf 4 = .ok (.invokevirtual 234, 3) := by decide +kernel
theorem d_M_isIf_7 : decode b_M_isIf 7 = .ok (.ifCond .eq 31, 3) := by decide +kernel
theorem d_M_isIf_10 : decode b_M_isIf 10 = .ok (.aload_n 0, 1) := by decide +kernel
theorem d_M_isIf_11 : decode b_M_isIf 11 = .ok (.iconst 1, 1) := by decide +kernel
theorem d_M_isIf_12 : decode b_M_isIf 12 = .ok (.invokevirtual 219, 3) := by decide +kernel
theorem d_M_isIf_15 : decode b_M_isIf 15 = .ok (.ifCond .eq 23, 3) := by decide +kernel
theorem d_M_isIf_18 : decode b_M_isIf 18 = .ok (.aload_n 0, 1) := by decide +kernel
theorem d_M_isIf_19 : decode b_M_isIf 19 = .ok (.bipush 41, 2) := by decide +kernel
theorem d_M_isIf_21 : decode b_M_isIf 21 = .ok (.invokevirtual 226, 3) := by decide +kernel
theorem d_M_isIf_24 : decode b_M_isIf 24 = .ok (.ifCond .eq 14, 3) := by decide +kernel
theorem d_M_isIf_27 : decode b_M_isIf 27 = .ok (.aload_n 0, 1) := by decide +kernel
theorem d_M_isIf_28 : decode b_M_isIf 28 = .ok (.invokevirtual 316, 3) := by decide +kernel
theorem d_M_isIf_31 : decode b_M_isIf 31 = .ok (.ifCond .le 7, 3) := by decide +kernel
theorem d_M_isIf_34 : decode b_M_isIf 34 = .ok (.iconst 1, 1) := by decide +kernel
theorem d_M_isIf_35 : decode b_M_isIf 35 = .ok (.goto 4, 3) := by decide +kernel
theorem d_M_isIf_38 : decode b_M_isIf 38 = .ok (.iconst 0, 1) := by decide +kernel
theorem d_M_isIf_39 : decode b_M_isIf 39 = .ok (.ireturn, 1) := by decide +kernel
abbrev y_M_read : MethodName := ⟨"DeckFrontModel", "read", "(I)I"⟩
abbrev b_M_read : ByteArray := prog_8_method_53_code
abbrev w_M_read : List Cond := (Jvm.Cond.code ({ cls := "DeckFrontModel", name := "read", desc := "(I)I" } : Jvm.MethodName) prog_8_method_53_code (3 : Nat) (Option.some Jvm.ClassFile.FieldType.int)) :: wG
theorem d_M_read_0 : decode b_M_read 0 = .ok (.aload_n 0, 1) := by decide +kernel
theorem d_M_read_1 : decode b_M_read 1 = .ok (.bipush 80, 2) := by decide +kernel
theorem d_M_read_3 : decode b_M_read 3 = .ok (.iload_n 1, 1) := by decide +kernel
theorem d_M_read_4 : decode b_M_read 4 = .ok (.imul, 1) := by decide +kernel
theorem d_M_read_5 : decode b_M_read 5 = .ok (.putfield 319, 3) := by decide +kernel
theorem d_M_read_8 : decode b_M_read 8 = .ok (.aload_n 0, 1) := by decide +kernel
theorem d_M_read_9 : decode b_M_read 9 = .ok (.aload_n 0, 1) := by decide +kernel
theorem d_M_read_10 : decode b_M_read 10 = .ok (.getfield 319, 3) := by decide +kernel
theorem d_M_read_13 : decode b_M_read 13 = .ok (.aload_n 0, 1) := by decide +kernel
theorem d_M_read_14 : decode b_M_read 14 = .ok (.getfield 17, 3) := by decide +kernel
theorem d_M_read_17 : decode b_M_read 17 = .ok (.iload_n 1, 1) := by decide +kernel
theorem d_M_read_18 : decode b_M_read 18 = .ok (.iaload, 1) := by decide +kernel
theorem d_M_read_19 : decode b_M_read 19 = .ok (.iadd, 1) := by decide +kernel
theorem d_M_read_20 : decode b_M_read 20 = .ok (.putfield 116, 3) := by decide +kernel
theorem d_M_read_23 : decode b_M_read 23 = .ok (.iconst 1, 1) := by decide +kernel
theorem d_M_read_24 : decode b_M_read 24 = .ok (.istore_n 2, 1) := by decide +kernel
theorem d_M_read_25 : decode b_M_read 25 = .ok (.iload_n 2, 1) := by decide +kernel
theorem d_M_read_26 : decode b_M_read 26 = .ok (.bipush 18, 2) := by decide +kernel
theorem d_M_read_28 : decode b_M_read 28 = .ok (.if_icmp .ge 57, 3) := by decide +kernel
theorem d_M_read_31 : decode b_M_read 31 = .ok (.aload_n 0, 1) := by decide +kernel
theorem d_M_read_32 : decode b_M_read 32 = .ok (.aload_n 0, 1) := by decide +kernel
theorem d_M_read_33 : decode b_M_read 33 = .ok (.getfield 319, 3) := by decide +kernel
theorem d_M_read_36 : decode b_M_read 36 = .ok (.putfield 126, 3) := by decide +kernel
theorem d_M_read_39 : decode b_M_read 39 = .ok (.aload_n 0, 1) := by decide +kernel
theorem d_M_read_40 : decode b_M_read 40 = .ok (.iconst 0, 1) := by decide +kernel
theorem d_M_read_41 : decode b_M_read 41 = .ok (.putfield 119, 3) := by decide +kernel
theorem d_M_read_44 : decode b_M_read 44 = .ok (.aload_n 0, 1) := by decide +kernel
theorem d_M_read_45 : decode b_M_read 45 = .ok (.iconst 0, 1) := by decide +kernel
theorem d_M_read_46 : decode b_M_read 46 = .ok (.putfield 138, 3) := by decide +kernel
theorem d_M_read_49 : decode b_M_read 49 = .ok (.aload_n 0, 1) := by decide +kernel
theorem d_M_read_50 : decode b_M_read 50 = .ok (.iconst 0, 1) := by decide +kernel
theorem d_M_read_51 : decode b_M_read 51 = .ok (.putfield 244, 3) := by decide +kernel
theorem d_M_read_54 : decode b_M_read 54 = .ok (.iload_n 2, 1) := by decide +kernel
theorem d_M_read_55 : decode b_M_read 55 = .ok (.iconst 4, 1) := by decide +kernel
theorem d_M_read_56 : decode b_M_read 56 = .ok (.if_icmp .ne 13, 3) := by decide +kernel
theorem d_M_read_59 : decode b_M_read 59 = .ok (.aload_n 0, 1) := by decide +kernel
theorem d_M_read_60 : decode b_M_read 60 = .ok (.invokevirtual 322, 3) := by decide +kernel
theorem d_M_read_63 : decode b_M_read 63 = .ok (.ifCond .eq 16, 3) := by decide +kernel
theorem d_M_read_66 : decode b_M_read 66 = .ok (.goto 11, 3) := by decide +kernel
theorem d_M_read_69 : decode b_M_read 69 = .ok (.aload_n 0, 1) := by decide +kernel
theorem d_M_read_70 : decode b_M_read 70 = .ok (.iload_n 2, 1) := by decide +kernel
theorem d_M_read_71 : decode b_M_read 71 = .ok (.invokevirtual 310, 3) := by decide +kernel
theorem d_M_read_74 : decode b_M_read 74 = .ok (.ifCond .eq 5, 3) := by decide +kernel
theorem d_M_read_77 : decode b_M_read 77 = .ok (.iload_n 2, 1) := by decide +kernel
theorem d_M_read_78 : decode b_M_read 78 = .ok (.ireturn, 1) := by decide +kernel
theorem d_M_read_79 : decode b_M_read 79 = .ok (.iinc 2 1, 3) := by decide +kernel
theorem d_M_read_82 : decode b_M_read 82 = .ok (.goto (-57), 3) := by decide +kernel
theorem d_M_read_85 : decode b_M_read 85 = .ok (.aload_n 0, 1) := by decide +kernel
theorem d_M_read_86 : decode b_M_read 86 = .ok (.iconst 0, 1) := by decide +kernel
theorem d_M_read_87 : decode b_M_read 87 = .ok (.putfield 119, 3) := by decide +kernel
theorem d_M_read_90 : decode b_M_read 90 = .ok (.aload_n 0, 1) := by decide +kernel
theorem d_M_read_91 : decode b_M_read 91 = .ok (.iconst 0, 1) := by decide +kernel
theorem d_M_read_92 : decode b_M_read 92 = .ok (.putfield 138, 3) := by decide +kernel
theorem d_M_read_95 : decode b_M_read 95 = .ok (.aload_n 0, 1) := by decide +kernel
theorem d_M_read_96 : decode b_M_read 96 = .ok (.iconst 0, 1) := by decide +kernel
theorem d_M_read_97 : decode b_M_read 97 = .ok (.putfield 244, 3) := by decide +kernel
theorem d_M_read_100 : decode b_M_read 100 = .ok (.aload_n 0, 1) := by decide +kernel
theorem d_M_read_101 : decode b_M_read 101 = .ok (.aload_n 0, 1) := by decide +kernel
theorem d_M_read_102 : decode b_M_read 102 = .ok (.getfield 319, 3) := by decide +kernel
theorem d_M_read_105 : decode b_M_read 105 = .ok (.aload_n 0, 1) := by decide +kernel
theorem d_M_read_106 : decode b_M_read 106 = .ok (.getfield 116, 3) := by decide +kernel
theorem d_M_read_109 : decode b_M_read 109 = .ok (.invokevirtual 134, 3) := by decide +kernel
theorem d_M_read_112 : decode b_M_read 112 = .ok (.iconst 0, 1) := by decide +kernel
theorem d_M_read_113 : decode b_M_read 113 = .ok (.ireturn, 1) := by decide +kernel
abbrev y_M_what : MethodName := ⟨"DeckFrontModel", "what", "(I)I"⟩
abbrev b_M_what : ByteArray := prog_8_method_54_code
abbrev w_M_what : List Cond := (Jvm.Cond.code ({ cls := "DeckFrontModel", name := "what", desc := "(I)I" } : Jvm.MethodName) prog_8_method_54_code (2 : Nat) (Option.some Jvm.ClassFile.FieldType.int)) :: wG
theorem d_M_what_0 : decode b_M_what 0 = .ok (.aload_n 0, 1) := by decide +kernel
theorem d_M_what_1 : decode b_M_what 1 = .ok (.iconst 0, 1) := by decide +kernel
theorem d_M_what_2 : decode b_M_what 2 = .ok (.putfield 82, 3) := by decide +kernel
theorem d_M_what_5 : decode b_M_what 5 = .ok (.aload_n 0, 1) := by decide +kernel
theorem d_M_what_6 : decode b_M_what 6 = .ok (.iload_n 1, 1) := by decide +kernel
theorem d_M_what_7 : decode b_M_what 7 = .ok (.invokevirtual 113, 3) := by decide +kernel
theorem d_M_what_10 : decode b_M_what 10 = .ok (.ifCond .eq 11, 3) := by decide +kernel
theorem d_M_what_13 : decode b_M_what 13 = .ok (.aload_n 0, 1) := by decide +kernel
theorem d_M_what_14 : decode b_M_what 14 = .ok (.iload_n 1, 1) := by decide +kernel
theorem d_M_what_15 : decode b_M_what 15 = .ok (.invokevirtual 325, 3) := by decide +kernel
theorem d_M_what_18 : decode b_M_what 18 = .ok (.goto 4, 3) := by decide +kernel
theorem d_M_what_21 : decode b_M_what 21 = .ok (.iconst (-1), 1) := by decide +kernel
theorem d_M_what_22 : decode b_M_what 22 = .ok (.ireturn, 1) := by decide +kernel
abbrev y_M_shown : MethodName := ⟨"DeckFrontModel", "shown", "(II)I"⟩
abbrev b_M_shown : ByteArray := prog_8_method_55_code
abbrev w_M_shown : List Cond := (Jvm.Cond.code ({ cls := "DeckFrontModel", name := "shown", desc := "(II)I" } : Jvm.MethodName) prog_8_method_55_code (4 : Nat) (Option.some Jvm.ClassFile.FieldType.int)) :: wG
theorem d_M_shown_0 : decode b_M_shown 0 = .ok (.aload_n 0, 1) := by decide +kernel
theorem d_M_shown_1 : decode b_M_shown 1 = .ok (.iconst 0, 1) := by decide +kernel
theorem d_M_shown_2 : decode b_M_shown 2 = .ok (.putfield 82, 3) := by decide +kernel
theorem d_M_shown_5 : decode b_M_shown 5 = .ok (.aload_n 0, 1) := by decide +kernel
theorem d_M_shown_6 : decode b_M_shown 6 = .ok (.iload_n 1, 1) := by decide +kernel
theorem d_M_shown_7 : decode b_M_shown 7 = .ok (.invokevirtual 113, 3) := by decide +kernel
theorem d_M_shown_10 : decode b_M_shown 10 = .ok (.ifCond .eq 7, 3) := by decide +kernel
theorem d_M_shown_13 : decode b_M_shown 13 = .ok (.iload_n 2, 1) := by decide +kernel
theorem d_M_shown_14 : decode b_M_shown 14 = .ok (.ifCond .ge 5, 3) := by decide +kernel
theorem d_M_shown_17 : decode b_M_shown 17 = .ok (.iconst (-1), 1) := by decide +kernel
theorem d_M_shown_18 : decode b_M_shown 18 = .ok (.ireturn, 1) := by decide +kernel
theorem d_M_shown_19 : decode b_M_shown 19 = .ok (.aload_n 0, 1) := by decide +kernel
theorem d_M_shown_20 : decode b_M_shown 20 = .ok (.iload_n 1, 1) := by decide +kernel
theorem d_M_shown_21 : decode b_M_shown 21 = .ok (.invokevirtual 325, 3) := by decide +kernel
theorem d_M_shown_24 : decode b_M_shown 24 = .ok (.istore_n 3, 1) := by decide +kernel
theorem d_M_shown_25 : decode b_M_shown 25 = .ok (.iload_n 2, 1) := by decide +kernel
theorem d_M_shown_26 : decode b_M_shown 26 = .ok (.aload_n 0, 1) := by decide +kernel
theorem d_M_shown_27 : decode b_M_shown 27 = .ok (.getfield 119, 3) := by decide +kernel
theorem d_M_shown_30 : decode b_M_shown 30 = .ok (.if_icmp .ge 12, 3) := by decide +kernel
theorem d_M_shown_33 : decode b_M_shown 33 = .ok (.aload_n 0, 1) := by decide +kernel
theorem d_M_shown_34 : decode b_M_shown 34 = .ok (.getfield 23, 3) := by decide +kernel
theorem d_M_shown_37 : decode b_M_shown 37 = .ok (.iload_n 2, 1) := by decide +kernel
theorem d_M_shown_38 : decode b_M_shown 38 = .ok (.caload, 1) := by decide +kernel
theorem d_M_shown_39 : decode b_M_shown 39 = .ok (.goto 4, 3) := by decide +kernel
theorem d_M_shown_42 : decode b_M_shown 42 = .ok (.iconst (-1), 1) := by decide +kernel
theorem d_M_shown_43 : decode b_M_shown 43 = .ok (.ireturn, 1) := by decide +kernel
abbrev y_M_packed : MethodName := ⟨"DeckFrontModel", "packed", "(J)J"⟩
abbrev b_M_packed : ByteArray := prog_8_method_56_code
abbrev w_M_packed : List Cond := (Jvm.Cond.code ({ cls := "DeckFrontModel", name := "packed", desc := "(J)J" } : Jvm.MethodName) prog_8_method_56_code (7 : Nat) (Option.some Jvm.ClassFile.FieldType.long)) :: wG
theorem d_M_packed_0 : decode b_M_packed 0 = .ok (.lconst 0, 1) := by decide +kernel
theorem d_M_packed_1 : decode b_M_packed 1 = .ok (.lstore_n 2, 1) := by decide +kernel
theorem d_M_packed_2 : decode b_M_packed 2 = .ok (.iconst 0, 1) := by decide +kernel
theorem d_M_packed_3 : decode b_M_packed 3 = .ok (.istore 4, 2) := by decide +kernel
theorem d_M_packed_5 : decode b_M_packed 5 = .ok (.bipush 7, 2) := by decide +kernel
theorem d_M_packed_7 : decode b_M_packed 7 = .ok (.istore 5, 2) := by decide +kernel
theorem d_M_packed_9 : decode b_M_packed 9 = .ok (.iload 5, 2) := by decide +kernel
theorem d_M_packed_11 : decode b_M_packed 11 = .ok (.ifCond .lt 70, 3) := by decide +kernel
theorem d_M_packed_14 : decode b_M_packed 14 = .ok (.lload_n 0, 1) := by decide +kernel
theorem d_M_packed_15 : decode b_M_packed 15 = .ok (.bipush 8, 2) := by decide +kernel
theorem d_M_packed_17 : decode b_M_packed 17 = .ok (.iload 5, 2) := by decide +kernel
theorem d_M_packed_19 : decode b_M_packed 19 = .ok (.imul, 1) := by decide +kernel
theorem d_M_packed_20 : decode b_M_packed 20 = .ok (.lushr, 1) := by decide +kernel
theorem d_M_packed_21 : decode b_M_packed 21 = .ok (.l2i, 1) := by decide +kernel
theorem d_M_packed_22 : decode b_M_packed 22 = .ok (.sipush 255, 3) := by decide +kernel
theorem d_M_packed_25 : decode b_M_packed 25 = .ok (.iand, 1) := by decide +kernel
theorem d_M_packed_26 : decode b_M_packed 26 = .ok (.istore 6, 2) := by decide +kernel
theorem d_M_packed_28 : decode b_M_packed 28 = .ok (.iload 6, 2) := by decide +kernel
theorem d_M_packed_30 : decode b_M_packed 30 = .ok (.ifCond .eq 45, 3) := by decide +kernel
theorem d_M_packed_33 : decode b_M_packed 33 = .ok (.iload 6, 2) := by decide +kernel
theorem d_M_packed_35 : decode b_M_packed 35 = .ok (.invokestatic 86, 3) := by decide +kernel
theorem d_M_packed_38 : decode b_M_packed 38 = .ok (.ifCond .ne 16, 3) := by decide +kernel
theorem d_M_packed_41 : decode b_M_packed 41 = .ok (.iload 4, 2) := by decide +kernel
theorem d_M_packed_43 : decode b_M_packed 43 = .ok (.ifCond .eq 18, 3) := by decide +kernel
theorem d_M_packed_46 : decode b_M_packed 46 = .ok (.iload 6, 2) := by decide +kernel
theorem d_M_packed_48 : decode b_M_packed 48 = .ok (.invokestatic 90, 3) := by decide +kernel
theorem d_M_packed_51 : decode b_M_packed 51 = .ok (.ifCond .eq 10, 3) := by decide +kernel
theorem d_M_packed_54 : decode b_M_packed 54 = .ok (.iload 4, 2) := by decide +kernel
theorem d_M_packed_56 : decode b_M_packed 56 = .ok (.bipush 6, 2) := by decide +kernel
theorem d_M_packed_58 : decode b_M_packed 58 = .ok (.if_icmp .ne 5, 3) := by decide +kernel
theorem d_M_packed_61 : decode b_M_packed 61 = .ok (.lconst 0, 1) := by decide +kernel
theorem d_M_packed_62 : decode b_M_packed 62 = .ok (.lreturn, 1) := by decide +kernel
theorem d_M_packed_63 : decode b_M_packed 63 = .ok (.lload_n 2, 1) := by decide +kernel
theorem d_M_packed_64 : decode b_M_packed 64 = .ok (.bipush 8, 2) := by decide +kernel
theorem d_M_packed_66 : decode b_M_packed 66 = .ok (.lshl, 1) := by decide +kernel
theorem d_M_packed_67 : decode b_M_packed 67 = .ok (.iload 6, 2) := by decide +kernel
theorem d_M_packed_69 : decode b_M_packed 69 = .ok (.i2l, 1) := by decide +kernel
theorem d_M_packed_70 : decode b_M_packed 70 = .ok (.lor, 1) := by decide +kernel
theorem d_M_packed_71 : decode b_M_packed 71 = .ok (.lstore_n 2, 1) := by decide +kernel
theorem d_M_packed_72 : decode b_M_packed 72 = .ok (.iinc 4 1, 3) := by decide +kernel
theorem d_M_packed_75 : decode b_M_packed 75 = .ok (.iinc 5 (-1), 3) := by decide +kernel
theorem d_M_packed_78 : decode b_M_packed 78 = .ok (.goto (-69), 3) := by decide +kernel
theorem d_M_packed_81 : decode b_M_packed 81 = .ok (.lload_n 2, 1) := by decide +kernel
theorem d_M_packed_82 : decode b_M_packed 82 = .ok (.lreturn, 1) := by decide +kernel
abbrev y_M_kind : MethodName := ⟨"DeckFrontModel", "kind", "(J)I"⟩
abbrev b_M_kind : ByteArray := prog_8_method_57_code
abbrev w_M_kind : List Cond := (Jvm.Cond.code ({ cls := "DeckFrontModel", name := "kind", desc := "(J)I" } : Jvm.MethodName) prog_8_method_57_code (10 : Nat) (Option.some Jvm.ClassFile.FieldType.int)) :: wG
theorem d_M_kind_0 : decode b_M_kind 0 = .ok (.aload_n 0, 1) := by decide +kernel
theorem d_M_kind_1 : decode b_M_kind 1 = .ok (.iconst 0, 1) := by decide +kernel
theorem d_M_kind_2 : decode b_M_kind 2 = .ok (.putfield 82, 3) := by decide +kernel
theorem d_M_kind_5 : decode b_M_kind 5 = .ok (.lload_n 1, 1) := by decide +kernel
theorem d_M_kind_6 : decode b_M_kind 6 = .ok (.invokestatic 328, 3) := by decide +kernel
theorem d_M_kind_9 : decode b_M_kind 9 = .ok (.lstore_n 3, 1) := by decide +kernel
theorem d_M_kind_10 : decode b_M_kind 10 = .ok (.iconst 0, 1) := by decide +kernel
theorem d_M_kind_11 : decode b_M_kind 11 = .ok (.istore 5, 2) := by decide +kernel
theorem d_M_kind_13 : decode b_M_kind 13 = .ok (.iconst 0, 1) := by decide +kernel
theorem d_M_kind_14 : decode b_M_kind 14 = .ok (.istore 6, 2) := by decide +kernel
theorem d_M_kind_16 : decode b_M_kind 16 = .ok (.iload 6, 2) := by decide +kernel
theorem d_M_kind_18 : decode b_M_kind 18 = .ok (.aload_n 0, 1) := by decide +kernel
theorem d_M_kind_19 : decode b_M_kind 19 = .ok (.getfield 99, 3) := by decide +kernel
theorem d_M_kind_22 : decode b_M_kind 22 = .ok (.if_icmp .ge 96, 3) := by decide +kernel
theorem d_M_kind_25 : decode b_M_kind 25 = .ok (.lload_n 3, 1) := by decide +kernel
theorem d_M_kind_26 : decode b_M_kind 26 = .ok (.lconst 0, 1) := by decide +kernel
theorem d_M_kind_27 : decode b_M_kind 27 = .ok (.lcmp, 1) := by decide +kernel
theorem d_M_kind_28 : decode b_M_kind 28 = .ok (.ifCond .eq 90, 3) := by decide +kernel
theorem d_M_kind_31 : decode b_M_kind 31 = .ok (.aload_n 0, 1) := by decide +kernel
theorem d_M_kind_32 : decode b_M_kind 32 = .ok (.iload 6, 2) := by decide +kernel
theorem d_M_kind_34 : decode b_M_kind 34 = .ok (.invokevirtual 325, 3) := by decide +kernel
theorem d_M_kind_37 : decode b_M_kind 37 = .ok (.istore 7, 2) := by decide +kernel
theorem d_M_kind_39 : decode b_M_kind 39 = .ok (.iconst 0, 1) := by decide +kernel
theorem d_M_kind_40 : decode b_M_kind 40 = .ok (.istore 8, 2) := by decide +kernel
theorem d_M_kind_42 : decode b_M_kind 42 = .ok (.iload 8, 2) := by decide +kernel
theorem d_M_kind_44 : decode b_M_kind 44 = .ok (.aload_n 0, 1) := by decide +kernel
theorem d_M_kind_45 : decode b_M_kind 45 = .ok (.getfield 138, 3) := by decide +kernel
theorem d_M_kind_48 : decode b_M_kind 48 = .ok (.if_icmp .ge 64, 3) := by decide +kernel
theorem d_M_kind_51 : decode b_M_kind 51 = .ok (.aload_n 0, 1) := by decide +kernel
theorem d_M_kind_52 : decode b_M_kind 52 = .ok (.getfield 26, 3) := by decide +kernel
theorem d_M_kind_55 : decode b_M_kind 55 = .ok (.iload 8, 2) := by decide +kernel
theorem d_M_kind_57 : decode b_M_kind 57 = .ok (.laload, 1) := by decide +kernel
theorem d_M_kind_58 : decode b_M_kind 58 = .ok (.lload_n 3, 1) := by decide +kernel
theorem d_M_kind_59 : decode b_M_kind 59 = .ok (.lcmp, 1) := by decide +kernel
theorem d_M_kind_60 : decode b_M_kind 60 = .ok (.ifCond .ne 24, 3) := by decide +kernel
theorem d_M_kind_63 : decode b_M_kind 63 = .ok (.iload 5, 2) := by decide +kernel
theorem d_M_kind_65 : decode b_M_kind 65 = .ok (.ifCond .eq 15, 3) := by decide +kernel
theorem d_M_kind_68 : decode b_M_kind 68 = .ok (.aload_n 0, 1) := by decide +kernel
theorem d_M_kind_69 : decode b_M_kind 69 = .ok (.getfield 30, 3) := by decide +kernel
theorem d_M_kind_72 : decode b_M_kind 72 = .ok (.iload 8, 2) := by decide +kernel
theorem d_M_kind_74 : decode b_M_kind 74 = .ok (.iaload, 1) := by decide +kernel
theorem d_M_kind_75 : decode b_M_kind 75 = .ok (.iload 5, 2) := by decide +kernel
theorem d_M_kind_77 : decode b_M_kind 77 = .ok (.if_icmp .ge 7, 3) := by decide +kernel
theorem d_M_kind_80 : decode b_M_kind 80 = .ok (.iconst 1, 1) := by decide +kernel
theorem d_M_kind_81 : decode b_M_kind 81 = .ok (.goto 4, 3) := by decide +kernel
theorem d_M_kind_84 : decode b_M_kind 84 = .ok (.iconst 0, 1) := by decide +kernel
theorem d_M_kind_85 : decode b_M_kind 85 = .ok (.istore 9, 2) := by decide +kernel
theorem d_M_kind_87 : decode b_M_kind 87 = .ok (.iload 9, 2) := by decide +kernel
theorem d_M_kind_89 : decode b_M_kind 89 = .ok (.ifCond .eq 13, 3) := by decide +kernel
theorem d_M_kind_92 : decode b_M_kind 92 = .ok (.aload_n 0, 1) := by decide +kernel
theorem d_M_kind_93 : decode b_M_kind 93 = .ok (.getfield 30, 3) := by decide +kernel
theorem d_M_kind_96 : decode b_M_kind 96 = .ok (.iload 8, 2) := by decide +kernel
theorem d_M_kind_98 : decode b_M_kind 98 = .ok (.iaload, 1) := by decide +kernel
theorem d_M_kind_99 : decode b_M_kind 99 = .ok (.goto 5, 3) := by decide +kernel
theorem d_M_kind_102 : decode b_M_kind 102 = .ok (.iload 5, 2) := by decide +kernel
theorem d_M_kind_104 : decode b_M_kind 104 = .ok (.istore 5, 2) := by decide +kernel
theorem d_M_kind_106 : decode b_M_kind 106 = .ok (.iinc 8 1, 3) := by decide +kernel
theorem d_M_kind_109 : decode b_M_kind 109 = .ok (.goto (-67), 3) := by decide +kernel
theorem d_M_kind_112 : decode b_M_kind 112 = .ok (.iinc 6 1, 3) := by decide +kernel
theorem d_M_kind_115 : decode b_M_kind 115 = .ok (.goto (-99), 3) := by decide +kernel
theorem d_M_kind_118 : decode b_M_kind 118 = .ok (.iload 5, 2) := by decide +kernel
theorem d_M_kind_120 : decode b_M_kind 120 = .ok (.ireturn, 1) := by decide +kernel
abbrev y_M_type : MethodName := ⟨"DeckFrontModel", "type", "(J)I"⟩
abbrev b_M_type : ByteArray := prog_8_method_58_code
abbrev w_M_type : List Cond := (Jvm.Cond.code ({ cls := "DeckFrontModel", name := "type", desc := "(J)I" } : Jvm.MethodName) prog_8_method_58_code (8 : Nat) (Option.some Jvm.ClassFile.FieldType.int)) :: wG
theorem d_M_type_0 : decode b_M_type 0 = .ok (.aload_n 0, 1) := by decide +kernel
theorem d_M_type_1 : decode b_M_type 1 = .ok (.iconst 0, 1) := by decide +kernel
theorem d_M_type_2 : decode b_M_type 2 = .ok (.putfield 82, 3) := by decide +kernel
theorem d_M_type_5 : decode b_M_type 5 = .ok (.lload_n 1, 1) := by decide +kernel
theorem d_M_type_6 : decode b_M_type 6 = .ok (.invokestatic 328, 3) := by decide +kernel
theorem d_M_type_9 : decode b_M_type 9 = .ok (.lstore_n 3, 1) := by decide +kernel
theorem d_M_type_10 : decode b_M_type 10 = .ok (.lload_n 3, 1) := by decide +kernel
theorem d_M_type_11 : decode b_M_type 11 = .ok (.lconst 0, 1) := by decide +kernel
theorem d_M_type_12 : decode b_M_type 12 = .ok (.lcmp, 1) := by decide +kernel
theorem d_M_type_13 : decode b_M_type 13 = .ok (.ifCond .ne 5, 3) := by decide +kernel
theorem d_M_type_16 : decode b_M_type 16 = .ok (.iconst 0, 1) := by decide +kernel
theorem d_M_type_17 : decode b_M_type 17 = .ok (.ireturn, 1) := by decide +kernel
theorem d_M_type_18 : decode b_M_type 18 = .ok (.iconst 0, 1) := by decide +kernel
theorem d_M_type_19 : decode b_M_type 19 = .ok (.istore 5, 2) := by decide +kernel
theorem d_M_type_21 : decode b_M_type 21 = .ok (.iload 5, 2) := by decide +kernel
theorem d_M_type_23 : decode b_M_type 23 = .ok (.aload_n 0, 1) := by decide +kernel
theorem d_M_type_24 : decode b_M_type 24 = .ok (.getfield 99, 3) := by decide +kernel
theorem d_M_type_27 : decode b_M_type 27 = .ok (.if_icmp .ge 65, 3) := by decide +kernel
theorem d_M_type_30 : decode b_M_type 30 = .ok (.aload_n 0, 1) := by decide +kernel
theorem d_M_type_31 : decode b_M_type 31 = .ok (.iload 5, 2) := by decide +kernel
theorem d_M_type_33 : decode b_M_type 33 = .ok (.invokevirtual 325, 3) := by decide +kernel
theorem d_M_type_36 : decode b_M_type 36 = .ok (.istore 6, 2) := by decide +kernel
theorem d_M_type_38 : decode b_M_type 38 = .ok (.iconst 0, 1) := by decide +kernel
theorem d_M_type_39 : decode b_M_type 39 = .ok (.istore 7, 2) := by decide +kernel
theorem d_M_type_41 : decode b_M_type 41 = .ok (.iload 7, 2) := by decide +kernel
theorem d_M_type_43 : decode b_M_type 43 = .ok (.aload_n 0, 1) := by decide +kernel
theorem d_M_type_44 : decode b_M_type 44 = .ok (.getfield 138, 3) := by decide +kernel
theorem d_M_type_47 : decode b_M_type 47 = .ok (.if_icmp .ge 39, 3) := by decide +kernel
theorem d_M_type_50 : decode b_M_type 50 = .ok (.aload_n 0, 1) := by decide +kernel
theorem d_M_type_51 : decode b_M_type 51 = .ok (.getfield 26, 3) := by decide +kernel
theorem d_M_type_54 : decode b_M_type 54 = .ok (.iload 7, 2) := by decide +kernel
theorem d_M_type_56 : decode b_M_type 56 = .ok (.laload, 1) := by decide +kernel
theorem d_M_type_57 : decode b_M_type 57 = .ok (.lload_n 3, 1) := by decide +kernel
theorem d_M_type_58 : decode b_M_type 58 = .ok (.lcmp, 1) := by decide +kernel
theorem d_M_type_59 : decode b_M_type 59 = .ok (.ifCond .ne 21, 3) := by decide +kernel
theorem d_M_type_62 : decode b_M_type 62 = .ok (.aload_n 0, 1) := by decide +kernel
theorem d_M_type_63 : decode b_M_type 63 = .ok (.getfield 33, 3) := by decide +kernel
theorem d_M_type_66 : decode b_M_type 66 = .ok (.iload 7, 2) := by decide +kernel
theorem d_M_type_68 : decode b_M_type 68 = .ok (.iaload, 1) := by decide +kernel
theorem d_M_type_69 : decode b_M_type 69 = .ok (.ifCond .le 11, 3) := by decide +kernel
theorem d_M_type_72 : decode b_M_type 72 = .ok (.aload_n 0, 1) := by decide +kernel
theorem d_M_type_73 : decode b_M_type 73 = .ok (.getfield 33, 3) := by decide +kernel
theorem d_M_type_76 : decode b_M_type 76 = .ok (.iload 7, 2) := by decide +kernel
theorem d_M_type_78 : decode b_M_type 78 = .ok (.iaload, 1) := by decide +kernel
theorem d_M_type_79 : decode b_M_type 79 = .ok (.ireturn, 1) := by decide +kernel
theorem d_M_type_80 : decode b_M_type 80 = .ok (.iinc 7 1, 3) := by decide +kernel
theorem d_M_type_83 : decode b_M_type 83 = .ok (.goto (-42), 3) := by decide +kernel
theorem d_M_type_86 : decode b_M_type 86 = .ok (.iinc 5 1, 3) := by decide +kernel
theorem d_M_type_89 : decode b_M_type 89 = .ok (.goto (-68), 3) := by decide +kernel
theorem d_M_type_92 : decode b_M_type 92 = .ok (.lload_n 3, 1) := by decide +kernel
theorem d_M_type_93 : decode b_M_type 93 = .ok (.lstore 5, 2) := by decide +kernel
theorem d_M_type_95 : decode b_M_type 95 = .ok (.lload 5, 2) := by decide +kernel
theorem d_M_type_97 : decode b_M_type 97 = .ok (.ldc2_w 132, 3) := by decide +kernel
theorem d_M_type_100 : decode b_M_type 100 = .ok (.lcmp, 1) := by decide +kernel
theorem d_M_type_101 : decode b_M_type 101 = .ok (.ifCond .le 13, 3) := by decide +kernel
theorem d_M_type_104 : decode b_M_type 104 = .ok (.lload 5, 2) := by decide +kernel
theorem d_M_type_106 : decode b_M_type 106 = .ok (.bipush 8, 2) := by decide +kernel
theorem d_M_type_108 : decode b_M_type 108 = .ok (.lshr, 1) := by decide +kernel
theorem d_M_type_109 : decode b_M_type 109 = .ok (.lstore 5, 2) := by decide +kernel
theorem d_M_type_111 : decode b_M_type 111 = .ok (.goto (-16), 3) := by decide +kernel
theorem d_M_type_114 : decode b_M_type 114 = .ok (.lload 5, 2) := by decide +kernel
theorem d_M_type_116 : decode b_M_type 116 = .ok (.ldc2_w 332, 3) := by decide +kernel
theorem d_M_type_119 : decode b_M_type 119 = .ok (.lcmp, 1) := by decide +kernel
theorem d_M_type_120 : decode b_M_type 120 = .ok (.ifCond .lt 16, 3) := by decide +kernel
theorem d_M_type_123 : decode b_M_type 123 = .ok (.lload 5, 2) := by decide +kernel
theorem d_M_type_125 : decode b_M_type 125 = .ok (.ldc2_w 334, 3) := by decide +kernel
theorem d_M_type_128 : decode b_M_type 128 = .ok (.lcmp, 1) := by decide +kernel
theorem d_M_type_129 : decode b_M_type 129 = .ok (.ifCond .gt 7, 3) := by decide +kernel
theorem d_M_type_132 : decode b_M_type 132 = .ok (.iconst 1, 1) := by decide +kernel
theorem d_M_type_133 : decode b_M_type 133 = .ok (.goto 4, 3) := by decide +kernel
theorem d_M_type_136 : decode b_M_type 136 = .ok (.iconst 2, 1) := by decide +kernel
theorem d_M_type_137 : decode b_M_type 137 = .ok (.ireturn, 1) := by decide +kernel
abbrev y_M_isLabel : MethodName := ⟨"DeckFrontModel", "isLabel", "(II)Z"⟩
abbrev b_M_isLabel : ByteArray := prog_8_method_59_code
abbrev w_M_isLabel : List Cond := (Jvm.Cond.code ({ cls := "DeckFrontModel", name := "isLabel", desc := "(II)Z" } : Jvm.MethodName) prog_8_method_59_code (5 : Nat) (Option.some Jvm.ClassFile.FieldType.boolean)) :: wG
theorem d_M_isLabel_0 : decode b_M_isLabel 0 = .ok (.iconst 0, 1) := by decide +kernel
theorem d_M_isLabel_1 : decode b_M_isLabel 1 = .ok (.istore_n 3, 1) := by decide +kernel
theorem d_M_isLabel_2 : decode b_M_isLabel 2 = .ok (.iload_n 2, 1) := by decide +kernel
theorem d_M_isLabel_3 : decode b_M_isLabel 3 = .ok (.istore 4, 2) := by decide +kernel
theorem d_M_isLabel_5 : decode b_M_isLabel 5 = .ok (.iload 4, 2) := by decide +kernel
theorem d_M_isLabel_7 : decode b_M_isLabel 7 = .ok (.aload_n 0, 1) := by decide +kernel
theorem d_M_isLabel_8 : decode b_M_isLabel 8 = .ok (.getfield 99, 3) := by decide +kernel
theorem d_M_isLabel_11 : decode b_M_isLabel 11 = .ok (.if_icmp .ge 34, 3) := by decide +kernel
theorem d_M_isLabel_14 : decode b_M_isLabel 14 = .ok (.iload_n 3, 1) := by decide +kernel
theorem d_M_isLabel_15 : decode b_M_isLabel 15 = .ok (.ifCond .ne 18, 3) := by decide +kernel
theorem d_M_isLabel_18 : decode b_M_isLabel 18 = .ok (.iload_n 1, 1) := by decide +kernel
theorem d_M_isLabel_19 : decode b_M_isLabel 19 = .ok (.ifCond .le 18, 3) := by decide +kernel
theorem d_M_isLabel_22 : decode b_M_isLabel 22 = .ok (.aload_n 0, 1) := by decide +kernel
theorem d_M_isLabel_23 : decode b_M_isLabel 23 = .ok (.getfield 13, 3) := by decide +kernel
theorem d_M_isLabel_26 : decode b_M_isLabel 26 = .ok (.iload 4, 2) := by decide +kernel
theorem d_M_isLabel_28 : decode b_M_isLabel 28 = .ok (.iaload, 1) := by decide +kernel
theorem d_M_isLabel_29 : decode b_M_isLabel 29 = .ok (.iload_n 1, 1) := by decide +kernel
theorem d_M_isLabel_30 : decode b_M_isLabel 30 = .ok (.if_icmp .ne 7, 3) := by decide +kernel
theorem d_M_isLabel_33 : decode b_M_isLabel 33 = .ok (.iconst 1, 1) := by decide +kernel
theorem d_M_isLabel_34 : decode b_M_isLabel 34 = .ok (.goto 4, 3) := by decide +kernel
theorem d_M_isLabel_37 : decode b_M_isLabel 37 = .ok (.iconst 0, 1) := by decide +kernel
theorem d_M_isLabel_38 : decode b_M_isLabel 38 = .ok (.istore_n 3, 1) := by decide +kernel
theorem d_M_isLabel_39 : decode b_M_isLabel 39 = .ok (.iinc 4 1, 3) := by decide +kernel
theorem d_M_isLabel_42 : decode b_M_isLabel 42 = .ok (.goto (-37), 3) := by decide +kernel
theorem d_M_isLabel_45 : decode b_M_isLabel 45 = .ok (.iload_n 3, 1) := by decide +kernel
theorem d_M_isLabel_46 : decode b_M_isLabel 46 = .ok (.ireturn, 1) := by decide +kernel
abbrev y_M_isOpen : MethodName := ⟨"DeckFrontModel", "isOpen", "(I)Z"⟩
abbrev b_M_isOpen : ByteArray := prog_8_method_60_code
abbrev w_M_isOpen : List Cond := (Jvm.Cond.code ({ cls := "DeckFrontModel", name := "isOpen", desc := "(I)Z" } : Jvm.MethodName) prog_8_method_60_code (4 : Nat) (Option.some Jvm.ClassFile.FieldType.boolean)) :: wG
theorem d_M_isOpen_0 : decode b_M_isOpen 0 = .ok (.iconst 0, 1) := by decide +kernel
theorem d_M_isOpen_1 : decode b_M_isOpen 1 = .ok (.istore_n 2, 1) := by decide +kernel
theorem d_M_isOpen_2 : decode b_M_isOpen 2 = .ok (.iconst 0, 1) := by decide +kernel
theorem d_M_isOpen_3 : decode b_M_isOpen 3 = .ok (.istore_n 3, 1) := by decide +kernel
theorem d_M_isOpen_4 : decode b_M_isOpen 4 = .ok (.iload_n 3, 1) := by decide +kernel
theorem d_M_isOpen_5 : decode b_M_isOpen 5 = .ok (.aload_n 0, 1) := by decide +kernel
theorem d_M_isOpen_6 : decode b_M_isOpen 6 = .ok (.getfield 336, 3) := by decide +kernel
theorem d_M_isOpen_9 : decode b_M_isOpen 9 = .ok (.if_icmp .ge 33, 3) := by decide +kernel
theorem d_M_isOpen_12 : decode b_M_isOpen 12 = .ok (.iload_n 2, 1) := by decide +kernel
theorem d_M_isOpen_13 : decode b_M_isOpen 13 = .ok (.ifCond .ne 17, 3) := by decide +kernel
theorem d_M_isOpen_16 : decode b_M_isOpen 16 = .ok (.iload_n 1, 1) := by decide +kernel
theorem d_M_isOpen_17 : decode b_M_isOpen 17 = .ok (.ifCond .le 17, 3) := by decide +kernel
theorem d_M_isOpen_20 : decode b_M_isOpen 20 = .ok (.aload_n 0, 1) := by decide +kernel
theorem d_M_isOpen_21 : decode b_M_isOpen 21 = .ok (.getfield 76, 3) := by decide +kernel
theorem d_M_isOpen_24 : decode b_M_isOpen 24 = .ok (.iload_n 3, 1) := by decide +kernel
theorem d_M_isOpen_25 : decode b_M_isOpen 25 = .ok (.iaload, 1) := by decide +kernel
theorem d_M_isOpen_26 : decode b_M_isOpen 26 = .ok (.iload_n 1, 1) := by decide +kernel
theorem d_M_isOpen_27 : decode b_M_isOpen 27 = .ok (.if_icmp .ne 7, 3) := by decide +kernel
theorem d_M_isOpen_30 : decode b_M_isOpen 30 = .ok (.iconst 1, 1) := by decide +kernel
theorem d_M_isOpen_31 : decode b_M_isOpen 31 = .ok (.goto 4, 3) := by decide +kernel
theorem d_M_isOpen_34 : decode b_M_isOpen 34 = .ok (.iconst 0, 1) := by decide +kernel
theorem d_M_isOpen_35 : decode b_M_isOpen 35 = .ok (.istore_n 2, 1) := by decide +kernel
theorem d_M_isOpen_36 : decode b_M_isOpen 36 = .ok (.iinc 3 1, 3) := by decide +kernel
theorem d_M_isOpen_39 : decode b_M_isOpen 39 = .ok (.goto (-35), 3) := by decide +kernel
theorem d_M_isOpen_42 : decode b_M_isOpen 42 = .ok (.iload_n 2, 1) := by decide +kernel
theorem d_M_isOpen_43 : decode b_M_isOpen 43 = .ok (.ireturn, 1) := by decide +kernel
abbrev y_M_early : MethodName := ⟨"DeckFrontModel", "early", "(IIZ)I"⟩
abbrev b_M_early : ByteArray := prog_8_method_61_code
abbrev w_M_early : List Cond := (Jvm.Cond.code ({ cls := "DeckFrontModel", name := "early", desc := "(IIZ)I" } : Jvm.MethodName) prog_8_method_61_code (7 : Nat) (Option.some Jvm.ClassFile.FieldType.int)) :: wG
theorem d_M_early_0 : decode b_M_early 0 = .ok (.aload_n 0, 1) := by decide +kernel
theorem d_M_early_1 : decode b_M_early 1 = .ok (.getfield 13, 3) := by decide +kernel
theorem d_M_early_4 : decode b_M_early 4 = .ok (.iload_n 1, 1) := by decide +kernel
theorem d_M_early_5 : decode b_M_early 5 = .ok (.iaload, 1) := by decide +kernel
theorem d_M_early_6 : decode b_M_early 6 = .ok (.istore 4, 2) := by decide +kernel
theorem d_M_early_8 : decode b_M_early 8 = .ok (.iload_n 2, 1) := by decide +kernel
theorem d_M_early_9 : decode b_M_early 9 = .ok (.ifCond .ne 5, 3) := by decide +kernel
theorem d_M_early_12 : decode b_M_early 12 = .ok (.iconst 1, 1) := by decide +kernel
theorem d_M_early_13 : decode b_M_early 13 = .ok (.ireturn, 1) := by decide +kernel
theorem d_M_early_14 : decode b_M_early 14 = .ok (.iconst 0, 1) := by decide +kernel
theorem d_M_early_15 : decode b_M_early 15 = .ok (.istore 5, 2) := by decide +kernel
theorem d_M_early_17 : decode b_M_early 17 = .ok (.iload 5, 2) := by decide +kernel
theorem d_M_early_19 : decode b_M_early 19 = .ok (.iload_n 1, 1) := by decide +kernel
theorem d_M_early_20 : decode b_M_early 20 = .ok (.if_icmp .ge 28, 3) := by decide +kernel
theorem d_M_early_23 : decode b_M_early 23 = .ok (.iload 4, 2) := by decide +kernel
theorem d_M_early_25 : decode b_M_early 25 = .ok (.ifCond .le 17, 3) := by decide +kernel
theorem d_M_early_28 : decode b_M_early 28 = .ok (.aload_n 0, 1) := by decide +kernel
theorem d_M_early_29 : decode b_M_early 29 = .ok (.getfield 13, 3) := by decide +kernel
theorem d_M_early_32 : decode b_M_early 32 = .ok (.iload 5, 2) := by decide +kernel
theorem d_M_early_34 : decode b_M_early 34 = .ok (.iaload, 1) := by decide +kernel
theorem d_M_early_35 : decode b_M_early 35 = .ok (.iload 4, 2) := by decide +kernel
theorem d_M_early_37 : decode b_M_early 37 = .ok (.if_icmp .ne 5, 3) := by decide +kernel
theorem d_M_early_40 : decode b_M_early 40 = .ok (.iconst 2, 1) := by decide +kernel
theorem d_M_early_41 : decode b_M_early 41 = .ok (.ireturn, 1) := by decide +kernel
theorem d_M_early_42 : decode b_M_early 42 = .ok (.iinc 5 1, 3) := by decide +kernel
theorem d_M_early_45 : decode b_M_early 45 = .ok (.goto (-28), 3) := by decide +kernel
theorem d_M_early_48 : decode b_M_early 48 = .ok (.iload_n 2, 1) := by decide +kernel
theorem d_M_early_49 : decode b_M_early 49 = .ok (.bipush 15, 2) := by decide +kernel
theorem d_M_early_51 : decode b_M_early 51 = .ok (.if_icmp .eq 9, 3) := by decide +kernel
theorem d_M_early_54 : decode b_M_early 54 = .ok (.iload_n 2, 1) := by decide +kernel
theorem d_M_early_55 : decode b_M_early 55 = .ok (.bipush 16, 2) := by decide +kernel
theorem d_M_early_57 : decode b_M_early 57 = .ok (.if_icmp .ne 9, 3) := by decide +kernel
theorem d_M_early_60 : decode b_M_early 60 = .ok (.iload_n 3, 1) := by decide +kernel
theorem d_M_early_61 : decode b_M_early 61 = .ok (.ifCond .eq 5, 3) := by decide +kernel
theorem d_M_early_64 : decode b_M_early 64 = .ok (.iconst 3, 1) := by decide +kernel
theorem d_M_early_65 : decode b_M_early 65 = .ok (.ireturn, 1) := by decide +kernel
theorem d_M_early_66 : decode b_M_early 66 = .ok (.aload_n 0, 1) := by decide +kernel
theorem d_M_early_67 : decode b_M_early 67 = .ok (.getfield 336, 3) := by decide +kernel
theorem d_M_early_70 : decode b_M_early 70 = .ok (.ifCond .le 21, 3) := by decide +kernel
theorem d_M_early_73 : decode b_M_early 73 = .ok (.aload_n 0, 1) := by decide +kernel
theorem d_M_early_74 : decode b_M_early 74 = .ok (.getfield 76, 3) := by decide +kernel
theorem d_M_early_77 : decode b_M_early 77 = .ok (.aload_n 0, 1) := by decide +kernel
theorem d_M_early_78 : decode b_M_early 78 = .ok (.getfield 336, 3) := by decide +kernel
theorem d_M_early_81 : decode b_M_early 81 = .ok (.iconst 1, 1) := by decide +kernel
theorem d_M_early_82 : decode b_M_early 82 = .ok (.isub, 1) := by decide +kernel
theorem d_M_early_83 : decode b_M_early 83 = .ok (.iaload, 1) := by decide +kernel
theorem d_M_early_84 : decode b_M_early 84 = .ok (.ifCond .ne 7, 3) := by decide +kernel
theorem d_M_early_87 : decode b_M_early 87 = .ok (.iconst 1, 1) := by decide +kernel
theorem d_M_early_88 : decode b_M_early 88 = .ok (.goto 4, 3) := by decide +kernel
theorem d_M_early_91 : decode b_M_early 91 = .ok (.iconst 0, 1) := by decide +kernel
theorem d_M_early_92 : decode b_M_early 92 = .ok (.istore 5, 2) := by decide +kernel
theorem d_M_early_94 : decode b_M_early 94 = .ok (.iload_n 2, 1) := by decide +kernel
theorem d_M_early_95 : decode b_M_early 95 = .ok (.iconst 4, 1) := by decide +kernel
theorem d_M_early_96 : decode b_M_early 96 = .ok (.if_icmp .le 36, 3) := by decide +kernel
theorem d_M_early_99 : decode b_M_early 99 = .ok (.iload_n 2, 1) := by decide +kernel
theorem d_M_early_100 : decode b_M_early 100 = .ok (.bipush 8, 2) := by decide +kernel
theorem d_M_early_102 : decode b_M_early 102 = .ok (.if_icmp .ge 30, 3) := by decide +kernel
theorem d_M_early_105 : decode b_M_early 105 = .ok (.iload 5, 2) := by decide +kernel
theorem d_M_early_107 : decode b_M_early 107 = .ok (.ifCond .eq 23, 3) := by decide +kernel
theorem d_M_early_110 : decode b_M_early 110 = .ok (.iload_n 2, 1) := by decide +kernel
theorem d_M_early_111 : decode b_M_early 111 = .ok (.bipush 7, 2) := by decide +kernel
theorem d_M_early_113 : decode b_M_early 113 = .ok (.if_icmp .ge 19, 3) := by decide +kernel
theorem d_M_early_116 : decode b_M_early 116 = .ok (.aload_n 0, 1) := by decide +kernel
theorem d_M_early_117 : decode b_M_early 117 = .ok (.getfield 79, 3) := by decide +kernel
theorem d_M_early_120 : decode b_M_early 120 = .ok (.aload_n 0, 1) := by decide +kernel
theorem d_M_early_121 : decode b_M_early 121 = .ok (.getfield 336, 3) := by decide +kernel
theorem d_M_early_124 : decode b_M_early 124 = .ok (.iconst 1, 1) := by decide +kernel
theorem d_M_early_125 : decode b_M_early 125 = .ok (.isub, 1) := by decide +kernel
theorem d_M_early_126 : decode b_M_early 126 = .ok (.baload, 1) := by decide +kernel
theorem d_M_early_127 : decode b_M_early 127 = .ok (.ifCond .eq 5, 3) := by decide +kernel
theorem d_M_early_130 : decode b_M_early 130 = .ok (.iconst 4, 1) := by decide +kernel
theorem d_M_early_131 : decode b_M_early 131 = .ok (.ireturn, 1) := by decide +kernel
theorem d_M_early_132 : decode b_M_early 132 = .ok (.aload_n 0, 1) := by decide +kernel
theorem d_M_early_133 : decode b_M_early 133 = .ok (.iload 4, 2) := by decide +kernel
theorem d_M_early_135 : decode b_M_early 135 = .ok (.invokevirtual 339, 3) := by decide +kernel
theorem d_M_early_138 : decode b_M_early 138 = .ok (.ifCond .eq 120, 3) := by decide +kernel
theorem d_M_early_141 : decode b_M_early 141 = .ok (.iload_n 2, 1) := by decide +kernel
theorem d_M_early_142 : decode b_M_early 142 = .ok (.iconst 1, 1) := by decide +kernel
theorem d_M_early_143 : decode b_M_early 143 = .ok (.if_icmp .eq 49, 3) := by decide +kernel
theorem d_M_early_146 : decode b_M_early 146 = .ok (.iload_n 2, 1) := by decide +kernel
theorem d_M_early_147 : decode b_M_early 147 = .ok (.iconst 3, 1) := by decide +kernel
theorem d_M_early_148 : decode b_M_early 148 = .ok (.if_icmp .eq 44, 3) := by decide +kernel
theorem d_M_early_151 : decode b_M_early 151 = .ok (.iload_n 2, 1) := by decide +kernel
theorem d_M_early_152 : decode b_M_early 152 = .ok (.iconst 4, 1) := by decide +kernel
theorem d_M_early_153 : decode b_M_early 153 = .ok (.if_icmp .le 9, 3) := by decide +kernel
theorem d_M_early_156 : decode b_M_early 156 = .ok (.iload_n 2, 1) := by decide +kernel
theorem d_M_early_157 : decode b_M_early 157 = .ok (.bipush 8, 2) := by decide +kernel
theorem d_M_early_159 : decode b_M_early 159 = .ok (.if_icmp .lt 33, 3) := by decide +kernel
theorem d_M_early_162 : decode b_M_early 162 = .ok (.iload_n 2, 1) := by decide +kernel
theorem d_M_early_163 : decode b_M_early 163 = .ok (.bipush 9, 2) := by decide +kernel
theorem d_M_early_165 : decode b_M_early 165 = .ok (.if_icmp .eq 27, 3) := by decide +kernel
theorem d_M_early_168 : decode b_M_early 168 = .ok (.iload_n 2, 1) := by decide +kernel
theorem d_M_early_169 : decode b_M_early 169 = .ok (.bipush 11, 2) := by decide +kernel
theorem d_M_early_171 : decode b_M_early 171 = .ok (.if_icmp .eq 21, 3) := by decide +kernel
theorem d_M_early_174 : decode b_M_early 174 = .ok (.iload_n 2, 1) := by decide +kernel
theorem d_M_early_175 : decode b_M_early 175 = .ok (.bipush 12, 2) := by decide +kernel
theorem d_M_early_177 : decode b_M_early 177 = .ok (.if_icmp .eq 15, 3) := by decide +kernel
theorem d_M_early_180 : decode b_M_early 180 = .ok (.iload_n 2, 1) := by decide +kernel
theorem d_M_early_181 : decode b_M_early 181 = .ok (.bipush 14, 2) := by decide +kernel
theorem d_M_early_183 : decode b_M_early 183 = .ok (.if_icmp .eq 9, 3) := by decide +kernel
theorem d_M_early_186 : decode b_M_early 186 = .ok (.iload_n 2, 1) := by decide +kernel
theorem d_M_early_187 : decode b_M_early 187 = .ok (.bipush 17, 2) := by decide +kernel
theorem d_M_early_189 : decode b_M_early 189 = .ok (.if_icmp .ne 7, 3) := by decide +kernel
theorem d_M_early_192 : decode b_M_early 192 = .ok (.iconst 1, 1) := by decide +kernel
theorem d_M_early_193 : decode b_M_early 193 = .ok (.goto 4, 3) := by decide +kernel
theorem d_M_early_196 : decode b_M_early 196 = .ok (.iconst 0, 1) := by decide +kernel
theorem d_M_early_197 : decode b_M_early 197 = .ok (.istore 6, 2) := by decide +kernel
theorem d_M_early_199 : decode b_M_early 199 = .ok (.aload_n 0, 1) := by decide +kernel
theorem d_M_early_200 : decode b_M_early 200 = .ok (.getfield 76, 3) := by decide +kernel
theorem d_M_early_203 : decode b_M_early 203 = .ok (.aload_n 0, 1) := by decide +kernel
theorem d_M_early_204 : decode b_M_early 204 = .ok (.getfield 336, 3) := by decide +kernel
theorem d_M_early_207 : decode b_M_early 207 = .ok (.iconst 1, 1) := by decide +kernel
theorem d_M_early_208 : decode b_M_early 208 = .ok (.isub, 1) := by decide +kernel
theorem d_M_early_209 : decode b_M_early 209 = .ok (.iaload, 1) := by decide +kernel
theorem d_M_early_210 : decode b_M_early 210 = .ok (.iload 4, 2) := by decide +kernel
theorem d_M_early_212 : decode b_M_early 212 = .ok (.if_icmp .ne 8, 3) := by decide +kernel
theorem d_M_early_215 : decode b_M_early 215 = .ok (.iload 6, 2) := by decide +kernel
theorem d_M_early_217 : decode b_M_early 217 = .ok (.ifCond .eq 5, 3) := by decide +kernel
theorem d_M_early_220 : decode b_M_early 220 = .ok (.iconst 5, 1) := by decide +kernel
theorem d_M_early_221 : decode b_M_early 221 = .ok (.ireturn, 1) := by decide +kernel
theorem d_M_early_222 : decode b_M_early 222 = .ok (.aload_n 0, 1) := by decide +kernel
theorem d_M_early_223 : decode b_M_early 223 = .ok (.getfield 336, 3) := by decide +kernel
theorem d_M_early_226 : decode b_M_early 226 = .ok (.ifCond .le 32, 3) := by decide +kernel
theorem d_M_early_229 : decode b_M_early 229 = .ok (.aload_n 0, 1) := by decide +kernel
theorem d_M_early_230 : decode b_M_early 230 = .ok (.getfield 76, 3) := by decide +kernel
theorem d_M_early_233 : decode b_M_early 233 = .ok (.aload_n 0, 1) := by decide +kernel
theorem d_M_early_234 : decode b_M_early 234 = .ok (.getfield 336, 3) := by decide +kernel
theorem d_M_early_237 : decode b_M_early 237 = .ok (.iconst 1, 1) := by decide +kernel
theorem d_M_early_238 : decode b_M_early 238 = .ok (.isub, 1) := by decide +kernel
theorem d_M_early_239 : decode b_M_early 239 = .ok (.iaload, 1) := by decide +kernel
theorem d_M_early_240 : decode b_M_early 240 = .ok (.iload 4, 2) := by decide +kernel
theorem d_M_early_242 : decode b_M_early 242 = .ok (.if_icmp .ne 16, 3) := by decide +kernel
theorem d_M_early_245 : decode b_M_early 245 = .ok (.aload_n 0, 1) := by decide +kernel
theorem d_M_early_246 : decode b_M_early 246 = .ok (.dup, 1) := by decide +kernel
theorem d_M_early_247 : decode b_M_early 247 = .ok (.getfield 336, 3) := by decide +kernel
theorem d_M_early_250 : decode b_M_early 250 = .ok (.iconst 1, 1) := by decide +kernel
theorem d_M_early_251 : decode b_M_early 251 = .ok (.isub, 1) := by decide +kernel
theorem d_M_early_252 : decode b_M_early 252 = .ok (.putfield 336, 3) := by decide +kernel
theorem d_M_early_255 : decode b_M_early 255 = .ok (.goto (-33), 3) := by decide +kernel
theorem d_M_early_258 : decode b_M_early 258 = .ok (.iload_n 2, 1) := by decide +kernel
theorem d_M_early_259 : decode b_M_early 259 = .ok (.bipush 6, 2) := by decide +kernel
theorem d_M_early_261 : decode b_M_early 261 = .ok (.if_icmp .ne 15, 3) := by decide +kernel
theorem d_M_early_264 : decode b_M_early 264 = .ok (.aload_n 0, 1) := by decide +kernel
theorem d_M_early_265 : decode b_M_early 265 = .ok (.getfield 79, 3) := by decide +kernel
theorem d_M_early_268 : decode b_M_early 268 = .ok (.aload_n 0, 1) := by decide +kernel
theorem d_M_early_269 : decode b_M_early 269 = .ok (.getfield 336, 3) := by decide +kernel
theorem d_M_early_272 : decode b_M_early 272 = .ok (.iconst 1, 1) := by decide +kernel
theorem d_M_early_273 : decode b_M_early 273 = .ok (.isub, 1) := by decide +kernel
theorem d_M_early_274 : decode b_M_early 274 = .ok (.iconst 1, 1) := by decide +kernel
theorem d_M_early_275 : decode b_M_early 275 = .ok (.bastore, 1) := by decide +kernel
theorem d_M_early_276 : decode b_M_early 276 = .ok (.aload_n 0, 1) := by decide +kernel
theorem d_M_early_277 : decode b_M_early 277 = .ok (.iload_n 2, 1) := by decide +kernel
theorem d_M_early_278 : decode b_M_early 278 = .ok (.bipush 7, 2) := by decide +kernel
theorem d_M_early_280 : decode b_M_early 280 = .ok (.if_icmp .ne 12, 3) := by decide +kernel
theorem d_M_early_283 : decode b_M_early 283 = .ok (.aload_n 0, 1) := by decide +kernel
theorem d_M_early_284 : decode b_M_early 284 = .ok (.getfield 336, 3) := by decide +kernel
theorem d_M_early_287 : decode b_M_early 287 = .ok (.iconst 1, 1) := by decide +kernel
theorem d_M_early_288 : decode b_M_early 288 = .ok (.isub, 1) := by decide +kernel
theorem d_M_early_289 : decode b_M_early 289 = .ok (.goto 7, 3) := by decide +kernel
theorem d_M_early_292 : decode b_M_early 292 = .ok (.aload_n 0, 1) := by decide +kernel
theorem d_M_early_293 : decode b_M_early 293 = .ok (.getfield 336, 3) := by decide +kernel
theorem d_M_early_296 : decode b_M_early 296 = .ok (.putfield 336, 3) := by decide +kernel
theorem d_M_early_299 : decode b_M_early 299 = .ok (.iconst 0, 1) := by decide +kernel
theorem d_M_early_300 : decode b_M_early 300 = .ok (.ireturn, 1) := by decide +kernel

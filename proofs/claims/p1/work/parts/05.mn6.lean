abbrev y_M_later : MethodName := ⟨"DeckFrontModel", "later", "(II)I"⟩
abbrev b_M_later : ByteArray := prog_8_method_62_code
abbrev w_M_later : List Cond := (Jvm.Cond.code ({ cls := "DeckFrontModel", name := "later", desc := "(II)I" } : Jvm.MethodName) prog_8_method_62_code (4 : Nat) (Option.some Jvm.ClassFile.FieldType.int)) :: wG
theorem d_M_later_0 : decode b_M_later 0 = .ok (.iconst 0, 1) := by decide +kernel
theorem d_M_later_1 : decode b_M_later 1 = .ok (.istore_n 3, 1) := by decide +kernel
theorem d_M_later_2 : decode b_M_later 2 = .ok (.iload_n 3, 1) := by decide +kernel
theorem d_M_later_3 : decode b_M_later 3 = .ok (.aload_n 0, 1) := by decide +kernel
theorem d_M_later_4 : decode b_M_later 4 = .ok (.getfield 244, 3) := by decide +kernel
theorem d_M_later_7 : decode b_M_later 7 = .ok (.if_icmp .ge 37, 3) := by decide +kernel
theorem d_M_later_10 : decode b_M_later 10 = .ok (.aload_n 0, 1) := by decide +kernel
theorem d_M_later_11 : decode b_M_later 11 = .ok (.aload_n 0, 1) := by decide +kernel
theorem d_M_later_12 : decode b_M_later 12 = .ok (.getfield 36, 3) := by decide +kernel
theorem d_M_later_15 : decode b_M_later 15 = .ok (.iload_n 3, 1) := by decide +kernel
theorem d_M_later_16 : decode b_M_later 16 = .ok (.iaload, 1) := by decide +kernel
theorem d_M_later_17 : decode b_M_later 17 = .ok (.iload_n 2, 1) := by decide +kernel
theorem d_M_later_18 : decode b_M_later 18 = .ok (.iconst 1, 1) := by decide +kernel
theorem d_M_later_19 : decode b_M_later 19 = .ok (.if_icmp .ne 9, 3) := by decide +kernel
theorem d_M_later_22 : decode b_M_later 22 = .ok (.iload_n 1, 1) := by decide +kernel
theorem d_M_later_23 : decode b_M_later 23 = .ok (.iconst 1, 1) := by decide +kernel
theorem d_M_later_24 : decode b_M_later 24 = .ok (.iadd, 1) := by decide +kernel
theorem d_M_later_25 : decode b_M_later 25 = .ok (.goto 4, 3) := by decide +kernel
theorem d_M_later_28 : decode b_M_later 28 = .ok (.iconst 0, 1) := by decide +kernel
theorem d_M_later_29 : decode b_M_later 29 = .ok (.invokevirtual 342, 3) := by decide +kernel
theorem d_M_later_32 : decode b_M_later 32 = .ok (.ifCond .ne 6, 3) := by decide +kernel
theorem d_M_later_35 : decode b_M_later 35 = .ok (.bipush 6, 2) := by decide +kernel
theorem d_M_later_37 : decode b_M_later 37 = .ok (.ireturn, 1) := by decide +kernel
theorem d_M_later_38 : decode b_M_later 38 = .ok (.iinc 3 1, 3) := by decide +kernel
theorem d_M_later_41 : decode b_M_later 41 = .ok (.goto (-39), 3) := by decide +kernel
theorem d_M_later_44 : decode b_M_later 44 = .ok (.iload_n 2, 1) := by decide +kernel
theorem d_M_later_45 : decode b_M_later 45 = .ok (.bipush 14, 2) := by decide +kernel
theorem d_M_later_47 : decode b_M_later 47 = .ok (.if_icmp .ne 7, 3) := by decide +kernel
theorem d_M_later_50 : decode b_M_later 50 = .ok (.iconst 1, 1) := by decide +kernel
theorem d_M_later_51 : decode b_M_later 51 = .ok (.goto 4, 3) := by decide +kernel
theorem d_M_later_54 : decode b_M_later 54 = .ok (.iconst 0, 1) := by decide +kernel
theorem d_M_later_55 : decode b_M_later 55 = .ok (.iload_n 1, 1) := by decide +kernel
theorem d_M_later_56 : decode b_M_later 56 = .ok (.aload_n 0, 1) := by decide +kernel
theorem d_M_later_57 : decode b_M_later 57 = .ok (.getfield 99, 3) := by decide +kernel
theorem d_M_later_60 : decode b_M_later 60 = .ok (.iconst 1, 1) := by decide +kernel
theorem d_M_later_61 : decode b_M_later 61 = .ok (.isub, 1) := by decide +kernel
theorem d_M_later_62 : decode b_M_later 62 = .ok (.if_icmp .ne 7, 3) := by decide +kernel
theorem d_M_later_65 : decode b_M_later 65 = .ok (.iconst 1, 1) := by decide +kernel
theorem d_M_later_66 : decode b_M_later 66 = .ok (.goto 4, 3) := by decide +kernel
theorem d_M_later_69 : decode b_M_later 69 = .ok (.iconst 0, 1) := by decide +kernel
theorem d_M_later_70 : decode b_M_later 70 = .ok (.if_icmp .eq 6, 3) := by decide +kernel
theorem d_M_later_73 : decode b_M_later 73 = .ok (.bipush 7, 2) := by decide +kernel
theorem d_M_later_75 : decode b_M_later 75 = .ok (.ireturn, 1) := by decide +kernel
theorem d_M_later_76 : decode b_M_later 76 = .ok (.iload_n 2, 1) := by decide +kernel
theorem d_M_later_77 : decode b_M_later 77 = .ok (.bipush 14, 2) := by decide +kernel
theorem d_M_later_79 : decode b_M_later 79 = .ok (.if_icmp .ne 15, 3) := by decide +kernel
theorem d_M_later_82 : decode b_M_later 82 = .ok (.aload_n 0, 1) := by decide +kernel
theorem d_M_later_83 : decode b_M_later 83 = .ok (.getfield 336, 3) := by decide +kernel
theorem d_M_later_86 : decode b_M_later 86 = .ok (.ifCond .le 8, 3) := by decide +kernel
theorem d_M_later_89 : decode b_M_later 89 = .ok (.bipush 8, 2) := by decide +kernel
theorem d_M_later_91 : decode b_M_later 91 = .ok (.goto 4, 3) := by decide +kernel
theorem d_M_later_94 : decode b_M_later 94 = .ok (.iconst 0, 1) := by decide +kernel
theorem d_M_later_95 : decode b_M_later 95 = .ok (.ireturn, 1) := by decide +kernel
abbrev y_M_firstFault : MethodName := ⟨"DeckFrontModel", "firstFault", "()I"⟩
abbrev b_M_firstFault : ByteArray := prog_8_method_63_code
abbrev w_M_firstFault : List Cond := (Jvm.Cond.code ({ cls := "DeckFrontModel", name := "firstFault", desc := "()I" } : Jvm.MethodName) prog_8_method_63_code (5 : Nat) (Option.some Jvm.ClassFile.FieldType.int)) :: wG
theorem d_M_firstFault_0 : decode b_M_firstFault 0 = .ok (.aload_n 0, 1) := by decide +kernel
theorem d_M_firstFault_1 : decode b_M_firstFault 1 = .ok (.iconst 0, 1) := by decide +kernel
theorem d_M_firstFault_2 : decode b_M_firstFault 2 = .ok (.putfield 336, 3) := by decide +kernel
theorem d_M_firstFault_5 : decode b_M_firstFault 5 = .ok (.iconst 0, 1) := by decide +kernel
theorem d_M_firstFault_6 : decode b_M_firstFault 6 = .ok (.istore_n 1, 1) := by decide +kernel
theorem d_M_firstFault_7 : decode b_M_firstFault 7 = .ok (.iconst 0, 1) := by decide +kernel
theorem d_M_firstFault_8 : decode b_M_firstFault 8 = .ok (.istore_n 2, 1) := by decide +kernel
theorem d_M_firstFault_9 : decode b_M_firstFault 9 = .ok (.iload_n 2, 1) := by decide +kernel
theorem d_M_firstFault_10 : decode b_M_firstFault 10 = .ok (.aload_n 0, 1) := by decide +kernel
theorem d_M_firstFault_11 : decode b_M_firstFault 11 = .ok (.getfield 99, 3) := by decide +kernel
theorem d_M_firstFault_14 : decode b_M_firstFault 14 = .ok (.if_icmp .ge 131, 3) := by decide +kernel
theorem d_M_firstFault_17 : decode b_M_firstFault 17 = .ok (.aload_n 0, 1) := by decide +kernel
theorem d_M_firstFault_18 : decode b_M_firstFault 18 = .ok (.iload_n 2, 1) := by decide +kernel
theorem d_M_firstFault_19 : decode b_M_firstFault 19 = .ok (.invokevirtual 325, 3) := by decide +kernel
theorem d_M_firstFault_22 : decode b_M_firstFault 22 = .ok (.istore_n 3, 1) := by decide +kernel
theorem d_M_firstFault_23 : decode b_M_firstFault 23 = .ok (.aload_n 0, 1) := by decide +kernel
theorem d_M_firstFault_24 : decode b_M_firstFault 24 = .ok (.iload_n 2, 1) := by decide +kernel
theorem d_M_firstFault_25 : decode b_M_firstFault 25 = .ok (.iload_n 3, 1) := by decide +kernel
theorem d_M_firstFault_26 : decode b_M_firstFault 26 = .ok (.iload_n 1, 1) := by decide +kernel
theorem d_M_firstFault_27 : decode b_M_firstFault 27 = .ok (.invokevirtual 345, 3) := by decide +kernel
theorem d_M_firstFault_30 : decode b_M_firstFault 30 = .ok (.istore 4, 2) := by decide +kernel
theorem d_M_firstFault_32 : decode b_M_firstFault 32 = .ok (.iload 4, 2) := by decide +kernel
theorem d_M_firstFault_34 : decode b_M_firstFault 34 = .ok (.ifCond .ne 12, 3) := by decide +kernel
theorem d_M_firstFault_37 : decode b_M_firstFault 37 = .ok (.aload_n 0, 1) := by decide +kernel
theorem d_M_firstFault_38 : decode b_M_firstFault 38 = .ok (.iload_n 2, 1) := by decide +kernel
theorem d_M_firstFault_39 : decode b_M_firstFault 39 = .ok (.iload_n 3, 1) := by decide +kernel
theorem d_M_firstFault_40 : decode b_M_firstFault 40 = .ok (.invokevirtual 349, 3) := by decide +kernel
theorem d_M_firstFault_43 : decode b_M_firstFault 43 = .ok (.goto 5, 3) := by decide +kernel
theorem d_M_firstFault_46 : decode b_M_firstFault 46 = .ok (.iload 4, 2) := by decide +kernel
theorem d_M_firstFault_48 : decode b_M_firstFault 48 = .ok (.istore 4, 2) := by decide +kernel
theorem d_M_firstFault_50 : decode b_M_firstFault 50 = .ok (.iload 4, 2) := by decide +kernel
theorem d_M_firstFault_52 : decode b_M_firstFault 52 = .ok (.ifCond .le 11, 3) := by decide +kernel
theorem d_M_firstFault_55 : decode b_M_firstFault 55 = .ok (.bipush 32, 2) := by decide +kernel
theorem d_M_firstFault_57 : decode b_M_firstFault 57 = .ok (.iload 4, 2) := by decide +kernel
theorem d_M_firstFault_59 : decode b_M_firstFault 59 = .ok (.imul, 1) := by decide +kernel
theorem d_M_firstFault_60 : decode b_M_firstFault 60 = .ok (.iload_n 2, 1) := by decide +kernel
theorem d_M_firstFault_61 : decode b_M_firstFault 61 = .ok (.iadd, 1) := by decide +kernel
theorem d_M_firstFault_62 : decode b_M_firstFault 62 = .ok (.ireturn, 1) := by decide +kernel
theorem d_M_firstFault_63 : decode b_M_firstFault 63 = .ok (.iload_n 1, 1) := by decide +kernel
theorem d_M_firstFault_64 : decode b_M_firstFault 64 = .ok (.ifCond .ne 15, 3) := by decide +kernel
theorem d_M_firstFault_67 : decode b_M_firstFault 67 = .ok (.iload_n 3, 1) := by decide +kernel
theorem d_M_firstFault_68 : decode b_M_firstFault 68 = .ok (.bipush 15, 2) := by decide +kernel
theorem d_M_firstFault_70 : decode b_M_firstFault 70 = .ok (.if_icmp .eq 13, 3) := by decide +kernel
theorem d_M_firstFault_73 : decode b_M_firstFault 73 = .ok (.iload_n 3, 1) := by decide +kernel
theorem d_M_firstFault_74 : decode b_M_firstFault 74 = .ok (.bipush 16, 2) := by decide +kernel
theorem d_M_firstFault_76 : decode b_M_firstFault 76 = .ok (.if_icmp .eq 7, 3) := by decide +kernel
theorem d_M_firstFault_79 : decode b_M_firstFault 79 = .ok (.iconst 1, 1) := by decide +kernel
theorem d_M_firstFault_80 : decode b_M_firstFault 80 = .ok (.goto 4, 3) := by decide +kernel
theorem d_M_firstFault_83 : decode b_M_firstFault 83 = .ok (.iconst 0, 1) := by decide +kernel
theorem d_M_firstFault_84 : decode b_M_firstFault 84 = .ok (.istore_n 1, 1) := by decide +kernel
theorem d_M_firstFault_85 : decode b_M_firstFault 85 = .ok (.iload_n 3, 1) := by decide +kernel
theorem d_M_firstFault_86 : decode b_M_firstFault 86 = .ok (.iconst 1, 1) := by decide +kernel
theorem d_M_firstFault_87 : decode b_M_firstFault 87 = .ok (.if_icmp .eq 8, 3) := by decide +kernel
theorem d_M_firstFault_90 : decode b_M_firstFault 90 = .ok (.iload_n 3, 1) := by decide +kernel
theorem d_M_firstFault_91 : decode b_M_firstFault 91 = .ok (.iconst 3, 1) := by decide +kernel
theorem d_M_firstFault_92 : decode b_M_firstFault 92 = .ok (.if_icmp .ne 47, 3) := by decide +kernel
theorem d_M_firstFault_95 : decode b_M_firstFault 95 = .ok (.aload_n 0, 1) := by decide +kernel
theorem d_M_firstFault_96 : decode b_M_firstFault 96 = .ok (.getfield 76, 3) := by decide +kernel
theorem d_M_firstFault_99 : decode b_M_firstFault 99 = .ok (.aload_n 0, 1) := by decide +kernel
theorem d_M_firstFault_100 : decode b_M_firstFault 100 = .ok (.getfield 336, 3) := by decide +kernel
theorem d_M_firstFault_103 : decode b_M_firstFault 103 = .ok (.iload_n 3, 1) := by decide +kernel
theorem d_M_firstFault_104 : decode b_M_firstFault 104 = .ok (.iconst 1, 1) := by decide +kernel
theorem d_M_firstFault_105 : decode b_M_firstFault 105 = .ok (.if_icmp .ne 12, 3) := by decide +kernel
theorem d_M_firstFault_108 : decode b_M_firstFault 108 = .ok (.aload_n 0, 1) := by decide +kernel
theorem d_M_firstFault_109 : decode b_M_firstFault 109 = .ok (.getfield 36, 3) := by decide +kernel
theorem d_M_firstFault_112 : decode b_M_firstFault 112 = .ok (.iconst 0, 1) := by decide +kernel
theorem d_M_firstFault_113 : decode b_M_firstFault 113 = .ok (.iaload, 1) := by decide +kernel
theorem d_M_firstFault_114 : decode b_M_firstFault 114 = .ok (.goto 4, 3) := by decide +kernel
theorem d_M_firstFault_117 : decode b_M_firstFault 117 = .ok (.iconst 0, 1) := by decide +kernel
theorem d_M_firstFault_118 : decode b_M_firstFault 118 = .ok (.iastore, 1) := by decide +kernel
theorem d_M_firstFault_119 : decode b_M_firstFault 119 = .ok (.aload_n 0, 1) := by decide +kernel
theorem d_M_firstFault_120 : decode b_M_firstFault 120 = .ok (.getfield 79, 3) := by decide +kernel
theorem d_M_firstFault_123 : decode b_M_firstFault 123 = .ok (.aload_n 0, 1) := by decide +kernel
theorem d_M_firstFault_124 : decode b_M_firstFault 124 = .ok (.getfield 336, 3) := by decide +kernel
theorem d_M_firstFault_127 : decode b_M_firstFault 127 = .ok (.iconst 0, 1) := by decide +kernel
theorem d_M_firstFault_128 : decode b_M_firstFault 128 = .ok (.bastore, 1) := by decide +kernel
theorem d_M_firstFault_129 : decode b_M_firstFault 129 = .ok (.aload_n 0, 1) := by decide +kernel
theorem d_M_firstFault_130 : decode b_M_firstFault 130 = .ok (.dup, 1) := by decide +kernel
theorem d_M_firstFault_131 : decode b_M_firstFault 131 = .ok (.getfield 336, 3) := by decide +kernel
theorem d_M_firstFault_134 : decode b_M_firstFault 134 = .ok (.iconst 1, 1) := by decide +kernel
theorem d_M_firstFault_135 : decode b_M_firstFault 135 = .ok (.iadd, 1) := by decide +kernel
theorem d_M_firstFault_136 : decode b_M_firstFault 136 = .ok (.putfield 336, 3) := by decide +kernel
theorem d_M_firstFault_139 : decode b_M_firstFault 139 = .ok (.iinc 2 1, 3) := by decide +kernel
theorem d_M_firstFault_142 : decode b_M_firstFault 142 = .ok (.goto (-133), 3) := by decide +kernel
theorem d_M_firstFault_145 : decode b_M_firstFault 145 = .ok (.iconst 0, 1) := by decide +kernel
theorem d_M_firstFault_146 : decode b_M_firstFault 146 = .ok (.ireturn, 1) := by decide +kernel
abbrev y_M_fault : MethodName := ⟨"DeckFrontModel", "fault", "()I"⟩
abbrev b_M_fault : ByteArray := prog_8_method_64_code
abbrev w_M_fault : List Cond := (Jvm.Cond.code ({ cls := "DeckFrontModel", name := "fault", desc := "()I" } : Jvm.MethodName) prog_8_method_64_code (1 : Nat) (Option.some Jvm.ClassFile.FieldType.int)) :: wG
theorem d_M_fault_0 : decode b_M_fault 0 = .ok (.aload_n 0, 1) := by decide +kernel
theorem d_M_fault_1 : decode b_M_fault 1 = .ok (.iconst 0, 1) := by decide +kernel
theorem d_M_fault_2 : decode b_M_fault 2 = .ok (.putfield 82, 3) := by decide +kernel
theorem d_M_fault_5 : decode b_M_fault 5 = .ok (.aload_n 0, 1) := by decide +kernel
theorem d_M_fault_6 : decode b_M_fault 6 = .ok (.invokevirtual 352, 3) := by decide +kernel
theorem d_M_fault_9 : decode b_M_fault 9 = .ok (.bipush 32, 2) := by decide +kernel
theorem d_M_fault_11 : decode b_M_fault 11 = .ok (.idiv, 1) := by decide +kernel
theorem d_M_fault_12 : decode b_M_fault 12 = .ok (.ireturn, 1) := by decide +kernel
abbrev y_M_faultAt : MethodName := ⟨"DeckFrontModel", "faultAt", "()I"⟩
abbrev b_M_faultAt : ByteArray := prog_8_method_65_code
abbrev w_M_faultAt : List Cond := (Jvm.Cond.code ({ cls := "DeckFrontModel", name := "faultAt", desc := "()I" } : Jvm.MethodName) prog_8_method_65_code (2 : Nat) (Option.some Jvm.ClassFile.FieldType.int)) :: wG
theorem d_M_faultAt_0 : decode b_M_faultAt 0 = .ok (.aload_n 0, 1) := by decide +kernel
theorem d_M_faultAt_1 : decode b_M_faultAt 1 = .ok (.iconst 0, 1) := by decide +kernel
theorem d_M_faultAt_2 : decode b_M_faultAt 2 = .ok (.putfield 82, 3) := by decide +kernel
theorem d_M_faultAt_5 : decode b_M_faultAt 5 = .ok (.aload_n 0, 1) := by decide +kernel
theorem d_M_faultAt_6 : decode b_M_faultAt 6 = .ok (.invokevirtual 352, 3) := by decide +kernel
theorem d_M_faultAt_9 : decode b_M_faultAt 9 = .ok (.istore_n 1, 1) := by decide +kernel
theorem d_M_faultAt_10 : decode b_M_faultAt 10 = .ok (.iload_n 1, 1) := by decide +kernel
theorem d_M_faultAt_11 : decode b_M_faultAt 11 = .ok (.ifCond .ne 7, 3) := by decide +kernel
theorem d_M_faultAt_14 : decode b_M_faultAt 14 = .ok (.iconst (-1), 1) := by decide +kernel
theorem d_M_faultAt_15 : decode b_M_faultAt 15 = .ok (.goto 7, 3) := by decide +kernel
theorem d_M_faultAt_18 : decode b_M_faultAt 18 = .ok (.iload_n 1, 1) := by decide +kernel
theorem d_M_faultAt_19 : decode b_M_faultAt 19 = .ok (.bipush 32, 2) := by decide +kernel
theorem d_M_faultAt_21 : decode b_M_faultAt 21 = .ok (.irem, 1) := by decide +kernel
theorem d_M_faultAt_22 : decode b_M_faultAt 22 = .ok (.ireturn, 1) := by decide +kernel

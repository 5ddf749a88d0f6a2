section
-- ===== PART A: goes FIRST, ahead of the names: the tables' words, and 'selects' of the private methods out of them =====
/-- a private method of a class that the tables say can be made, by its rows of tables_1 -/
def lw_okq (q : MethodName × Nat) : Prop := (q.1.cls ≠ "java/lang/invoke/MethodHandle" ∧ q.1.cls ≠ "java/lang/invoke/VarHandle") ∧ Cond.instantiable q.1.cls q.2 ∈ tables_1 ∧ Cond.privateMethod q.1 ∈ tables_1 ∧ Cond.instanceMethod q.1 ∈ tables_1
theorem lw_p0 : lw_okq (⟨"DeckFront$Structure", "faultOf", "(LDeckFront$Deck;I)I"⟩, 4) := ⟨⟨by decide +kernel, by decide +kernel⟩, List.mem_of_getElem? (i := 117) (by decide +kernel), List.mem_of_getElem? (i := 334) (by decide +kernel), List.mem_of_getElem? (i := 335) (by decide +kernel)⟩
theorem lw_p1 : lw_okq (⟨"DeckFront$Structure", "branchFits", "(LDeckFront$Statement;)Z"⟩, 4) := ⟨⟨by decide +kernel, by decide +kernel⟩, List.mem_of_getElem? (i := 117) (by decide +kernel), List.mem_of_getElem? (i := 350) (by decide +kernel), List.mem_of_getElem? (i := 351) (by decide +kernel)⟩
theorem lw_p2 : lw_okq (⟨"DeckFront$Structure", "innermost", "()I"⟩, 4) := ⟨⟨by decide +kernel, by decide +kernel⟩, List.mem_of_getElem? (i := 117) (by decide +kernel), List.mem_of_getElem? (i := 354) (by decide +kernel), List.mem_of_getElem? (i := 355) (by decide +kernel)⟩
theorem lw_p3 : lw_okq (⟨"DeckFront$Structure", "isOpen", "(I)Z"⟩, 4) := ⟨⟨by decide +kernel, by decide +kernel⟩, List.mem_of_getElem? (i := 117) (by decide +kernel), List.mem_of_getElem? (i := 358) (by decide +kernel), List.mem_of_getElem? (i := 359) (by decide +kernel)⟩
theorem lw_p4 : lw_okq (⟨"DeckFront$Structure", "endWhatEnds", "(LDeckFront$Statement;)V"⟩, 4) := ⟨⟨by decide +kernel, by decide +kernel⟩, List.mem_of_getElem? (i := 117) (by decide +kernel), List.mem_of_getElem? (i := 367) (by decide +kernel), List.mem_of_getElem? (i := 368) (by decide +kernel)⟩
theorem lw_p5 : lw_okq (⟨"DeckFront$Structure", "hasItsLabels", "(LDeckFront$Deck;I)Z"⟩, 4) := ⟨⟨by decide +kernel, by decide +kernel⟩, List.mem_of_getElem? (i := 117) (by decide +kernel), List.mem_of_getElem? (i := 371) (by decide +kernel), List.mem_of_getElem? (i := 372) (by decide +kernel)⟩
theorem lw_p6 : lw_okq (⟨"DeckFront$Structure", "openWhatOpens", "(LDeckFront$Statement;)V"⟩, 4) := ⟨⟨by decide +kernel, by decide +kernel⟩, List.mem_of_getElem? (i := 117) (by decide +kernel), List.mem_of_getElem? (i := 386) (by decide +kernel), List.mem_of_getElem? (i := 387) (by decide +kernel)⟩
theorem lw_p7 : lw_okq (⟨"DeckFront$Deck", "carryOn", "(LDeckFront$Card;)I"⟩, 2) := ⟨⟨by decide +kernel, by decide +kernel⟩, List.mem_of_getElem? (i := 45) (by decide +kernel), List.mem_of_getElem? (i := 424) (by decide +kernel), List.mem_of_getElem? (i := 425) (by decide +kernel)⟩
theorem lw_p8 : lw_okq (⟨"DeckFront$Deck", "begin", "(LDeckFront$Card;)I"⟩, 2) := ⟨⟨by decide +kernel, by decide +kernel⟩, List.mem_of_getElem? (i := 45) (by decide +kernel), List.mem_of_getElem? (i := 435) (by decide +kernel), List.mem_of_getElem? (i := 436) (by decide +kernel)⟩
theorem lw_p9 : lw_okq (⟨"java/lang/Throwable", "fillInStackTrace", "(I)Ljava/lang/Throwable;"⟩, 6) := ⟨⟨by decide +kernel, by decide +kernel⟩, List.mem_of_getElem? (i := 486) (by decide +kernel), List.mem_of_getElem? (i := 484) (by decide +kernel), List.mem_of_getElem? (i := 485) (by decide +kernel)⟩
theorem lw_p10 : lw_okq (⟨"DeckFront$Statement", "firstThatFits", "(I)I"⟩, 9) := ⟨⟨by decide +kernel, by decide +kernel⟩, List.mem_of_getElem? (i := 52) (by decide +kernel), List.mem_of_getElem? (i := 535) (by decide +kernel), List.mem_of_getElem? (i := 536) (by decide +kernel)⟩
theorem lw_p11 : lw_okq (⟨"DeckFront$Statement", "fits", "(I)Z"⟩, 9) := ⟨⟨by decide +kernel, by decide +kernel⟩, List.mem_of_getElem? (i := 52) (by decide +kernel), List.mem_of_getElem? (i := 545) (by decide +kernel), List.mem_of_getElem? (i := 546) (by decide +kernel)⟩
theorem lw_p12 : lw_okq (⟨"DeckFront$Statement", "expression", "(II)Z"⟩, 9) := ⟨⟨by decide +kernel, by decide +kernel⟩, List.mem_of_getElem? (i := 52) (by decide +kernel), List.mem_of_getElem? (i := 606) (by decide +kernel), List.mem_of_getElem? (i := 607) (by decide +kernel)⟩
theorem lw_p13 : lw_okq (⟨"DeckFront$Statement", "power", "(I)Z"⟩, 9) := ⟨⟨by decide +kernel, by decide +kernel⟩, List.mem_of_getElem? (i := 52) (by decide +kernel), List.mem_of_getElem? (i := 610) (by decide +kernel), List.mem_of_getElem? (i := 611) (by decide +kernel)⟩
theorem lw_p14 : lw_okq (⟨"DeckFront$Statement", "primary", "(I)Z"⟩, 9) := ⟨⟨by decide +kernel, by decide +kernel⟩, List.mem_of_getElem? (i := 52) (by decide +kernel), List.mem_of_getElem? (i := 614) (by decide +kernel), List.mem_of_getElem? (i := 615) (by decide +kernel)⟩
theorem lw_p15 : lw_okq (⟨"DeckFront$Statement", "group", "(I)Z"⟩, 9) := ⟨⟨by decide +kernel, by decide +kernel⟩, List.mem_of_getElem? (i := 52) (by decide +kernel), List.mem_of_getElem? (i := 664) (by decide +kernel), List.mem_of_getElem? (i := 665) (by decide +kernel)⟩
def lw_privs_1 : List (MethodName × Nat) := [(⟨"DeckFront$Structure", "faultOf", "(LDeckFront$Deck;I)I"⟩, 4), (⟨"DeckFront$Structure", "branchFits", "(LDeckFront$Statement;)Z"⟩, 4), (⟨"DeckFront$Structure", "innermost", "()I"⟩, 4), (⟨"DeckFront$Structure", "isOpen", "(I)Z"⟩, 4), (⟨"DeckFront$Structure", "endWhatEnds", "(LDeckFront$Statement;)V"⟩, 4), (⟨"DeckFront$Structure", "hasItsLabels", "(LDeckFront$Deck;I)Z"⟩, 4), (⟨"DeckFront$Structure", "openWhatOpens", "(LDeckFront$Statement;)V"⟩, 4), (⟨"DeckFront$Deck", "carryOn", "(LDeckFront$Card;)I"⟩, 2), (⟨"DeckFront$Deck", "begin", "(LDeckFront$Card;)I"⟩, 2), (⟨"java/lang/Throwable", "fillInStackTrace", "(I)Ljava/lang/Throwable;"⟩, 6), (⟨"DeckFront$Statement", "firstThatFits", "(I)I"⟩, 9), (⟨"DeckFront$Statement", "fits", "(I)Z"⟩, 9), (⟨"DeckFront$Statement", "expression", "(II)Z"⟩, 9), (⟨"DeckFront$Statement", "power", "(I)Z"⟩, 9), (⟨"DeckFront$Statement", "primary", "(I)Z"⟩, 9), (⟨"DeckFront$Statement", "group", "(I)Z"⟩, 9)]
theorem lw_r1 : ∀ q ∈ lw_privs_1, lw_okq q := List.forall_mem_cons.mpr ⟨lw_p0, List.forall_mem_cons.mpr ⟨lw_p1, List.forall_mem_cons.mpr ⟨lw_p2, List.forall_mem_cons.mpr ⟨lw_p3, List.forall_mem_cons.mpr ⟨lw_p4, List.forall_mem_cons.mpr ⟨lw_p5, List.forall_mem_cons.mpr ⟨lw_p6, List.forall_mem_cons.mpr ⟨lw_p7, List.forall_mem_cons.mpr ⟨lw_p8, List.forall_mem_cons.mpr ⟨lw_p9, List.forall_mem_cons.mpr ⟨lw_p10, List.forall_mem_cons.mpr ⟨lw_p11, List.forall_mem_cons.mpr ⟨lw_p12, List.forall_mem_cons.mpr ⟨lw_p13, List.forall_mem_cons.mpr ⟨lw_p14, List.forall_mem_cons.mpr ⟨lw_p15, fun _ h => absurd h List.not_mem_nil⟩⟩⟩⟩⟩⟩⟩⟩⟩⟩⟩⟩⟩⟩⟩⟩
theorem lw_p16 : lw_okq (⟨"DeckFront$Statement", "reference", "(IZ)Z"⟩, 9) := ⟨⟨by decide +kernel, by decide +kernel⟩, List.mem_of_getElem? (i := 52) (by decide +kernel), List.mem_of_getElem? (i := 668) (by decide +kernel), List.mem_of_getElem? (i := 669) (by decide +kernel)⟩
theorem lw_p17 : lw_okq (⟨"DeckFront$Statement", "list", "(I)Z"⟩, 9) := ⟨⟨by decide +kernel, by decide +kernel⟩, List.mem_of_getElem? (i := 52) (by decide +kernel), List.mem_of_getElem? (i := 673) (by decide +kernel), List.mem_of_getElem? (i := 674) (by decide +kernel)⟩
theorem lw_p18 : lw_okq (⟨"DeckFront$Statement", "expressions", "(I)Z"⟩, 9) := ⟨⟨by decide +kernel, by decide +kernel⟩, List.mem_of_getElem? (i := 52) (by decide +kernel), List.mem_of_getElem? (i := 678) (by decide +kernel), List.mem_of_getElem? (i := 679) (by decide +kernel)⟩
theorem lw_p19 : lw_okq (⟨"DeckFront$Statement", "takeSignsBefore", "(I)I"⟩, 9) := ⟨⟨by decide +kernel, by decide +kernel⟩, List.mem_of_getElem? (i := 52) (by decide +kernel), List.mem_of_getElem? (i := 691) (by decide +kernel), List.mem_of_getElem? (i := 692) (by decide +kernel)⟩
theorem lw_p20 : lw_okq (⟨"DeckFront$Statement", "takeSignBetween", "(I)Z"⟩, 9) := ⟨⟨by decide +kernel, by decide +kernel⟩, List.mem_of_getElem? (i := 52) (by decide +kernel), List.mem_of_getElem? (i := 700) (by decide +kernel), List.mem_of_getElem? (i := 701) (by decide +kernel)⟩
theorem lw_p21 : lw_okq (⟨"DeckFront$Statement", "series", "(I)Z"⟩, 9) := ⟨⟨by decide +kernel, by decide +kernel⟩, List.mem_of_getElem? (i := 52) (by decide +kernel), List.mem_of_getElem? (i := 731) (by decide +kernel), List.mem_of_getElem? (i := 732) (by decide +kernel)⟩
theorem lw_p22 : lw_okq (⟨"DeckFront$Statement", "item", "(I)Z"⟩, 9) := ⟨⟨by decide +kernel, by decide +kernel⟩, List.mem_of_getElem? (i := 52) (by decide +kernel), List.mem_of_getElem? (i := 735) (by decide +kernel), List.mem_of_getElem? (i := 736) (by decide +kernel)⟩
theorem lw_p23 : lw_okq (⟨"DeckFrontModel", "isComment", "()Z"⟩, 36) := ⟨⟨by decide +kernel, by decide +kernel⟩, List.mem_of_getElem? (i := 744) (by decide +kernel), List.mem_of_getElem? (i := 882) (by decide +kernel), List.mem_of_getElem? (i := 883) (by decide +kernel)⟩
theorem lw_p24 : lw_okq (⟨"DeckFrontModel", "joined", "(I)I"⟩, 36) := ⟨⟨by decide +kernel, by decide +kernel⟩, List.mem_of_getElem? (i := 744) (by decide +kernel), List.mem_of_getElem? (i := 886) (by decide +kernel), List.mem_of_getElem? (i := 887) (by decide +kernel)⟩
theorem lw_p25 : lw_okq (⟨"DeckFrontModel", "inQuote", "(I)Z"⟩, 36) := ⟨⟨by decide +kernel, by decide +kernel⟩, List.mem_of_getElem? (i := 744) (by decide +kernel), List.mem_of_getElem? (i := 890) (by decide +kernel), List.mem_of_getElem? (i := 891) (by decide +kernel)⟩
theorem lw_p26 : lw_okq (⟨"DeckFrontModel", "there", "(I)Z"⟩, 36) := ⟨⟨by decide +kernel, by decide +kernel⟩, List.mem_of_getElem? (i := 744) (by decide +kernel), List.mem_of_getElem? (i := 906) (by decide +kernel), List.mem_of_getElem? (i := 907) (by decide +kernel)⟩
theorem lw_p27 : lw_okq (⟨"DeckFrontModel", "read", "(I)I"⟩, 36) := ⟨⟨by decide +kernel, by decide +kernel⟩, List.mem_of_getElem? (i := 744) (by decide +kernel), List.mem_of_getElem? (i := 914) (by decide +kernel), List.mem_of_getElem? (i := 915) (by decide +kernel)⟩
theorem lw_p28 : lw_okq (⟨"DeckFrontModel", "isIf", "()Z"⟩, 36) := ⟨⟨by decide +kernel, by decide +kernel⟩, List.mem_of_getElem? (i := 744) (by decide +kernel), List.mem_of_getElem? (i := 918) (by decide +kernel), List.mem_of_getElem? (i := 919) (by decide +kernel)⟩
theorem lw_p29 : lw_okq (⟨"DeckFrontModel", "word", "(J)Z"⟩, 36) := ⟨⟨by decide +kernel, by decide +kernel⟩, List.mem_of_getElem? (i := 744) (by decide +kernel), List.mem_of_getElem? (i := 923) (by decide +kernel), List.mem_of_getElem? (i := 924) (by decide +kernel)⟩
theorem lw_p30 : lw_okq (⟨"DeckFrontModel", "at", "(I)I"⟩, 36) := ⟨⟨by decide +kernel, by decide +kernel⟩, List.mem_of_getElem? (i := 744) (by decide +kernel), List.mem_of_getElem? (i := 927) (by decide +kernel), List.mem_of_getElem? (i := 928) (by decide +kernel)⟩
theorem lw_p31 : lw_okq (⟨"DeckFrontModel", "putPart", "(II)V"⟩, 36) := ⟨⟨by decide +kernel, by decide +kernel⟩, List.mem_of_getElem? (i := 744) (by decide +kernel), List.mem_of_getElem? (i := 932) (by decide +kernel), List.mem_of_getElem? (i := 933) (by decide +kernel)⟩
def lw_privs_2 : List (MethodName × Nat) := [(⟨"DeckFront$Statement", "reference", "(IZ)Z"⟩, 9), (⟨"DeckFront$Statement", "list", "(I)Z"⟩, 9), (⟨"DeckFront$Statement", "expressions", "(I)Z"⟩, 9), (⟨"DeckFront$Statement", "takeSignsBefore", "(I)I"⟩, 9), (⟨"DeckFront$Statement", "takeSignBetween", "(I)Z"⟩, 9), (⟨"DeckFront$Statement", "series", "(I)Z"⟩, 9), (⟨"DeckFront$Statement", "item", "(I)Z"⟩, 9), (⟨"DeckFrontModel", "isComment", "()Z"⟩, 36), (⟨"DeckFrontModel", "joined", "(I)I"⟩, 36), (⟨"DeckFrontModel", "inQuote", "(I)Z"⟩, 36), (⟨"DeckFrontModel", "there", "(I)Z"⟩, 36), (⟨"DeckFrontModel", "read", "(I)I"⟩, 36), (⟨"DeckFrontModel", "isIf", "()Z"⟩, 36), (⟨"DeckFrontModel", "word", "(J)Z"⟩, 36), (⟨"DeckFrontModel", "at", "(I)I"⟩, 36), (⟨"DeckFrontModel", "putPart", "(II)V"⟩, 36)]
theorem lw_r2 : ∀ q ∈ lw_privs_2, lw_okq q := List.forall_mem_cons.mpr ⟨lw_p16, List.forall_mem_cons.mpr ⟨lw_p17, List.forall_mem_cons.mpr ⟨lw_p18, List.forall_mem_cons.mpr ⟨lw_p19, List.forall_mem_cons.mpr ⟨lw_p20, List.forall_mem_cons.mpr ⟨lw_p21, List.forall_mem_cons.mpr ⟨lw_p22, List.forall_mem_cons.mpr ⟨lw_p23, List.forall_mem_cons.mpr ⟨lw_p24, List.forall_mem_cons.mpr ⟨lw_p25, List.forall_mem_cons.mpr ⟨lw_p26, List.forall_mem_cons.mpr ⟨lw_p27, List.forall_mem_cons.mpr ⟨lw_p28, List.forall_mem_cons.mpr ⟨lw_p29, List.forall_mem_cons.mpr ⟨lw_p30, List.forall_mem_cons.mpr ⟨lw_p31, fun _ h => absurd h List.not_mem_nil⟩⟩⟩⟩⟩⟩⟩⟩⟩⟩⟩⟩⟩⟩⟩⟩
theorem lw_p32 : lw_okq (⟨"DeckFrontModel", "put", "(I)V"⟩, 36) := ⟨⟨by decide +kernel, by decide +kernel⟩, List.mem_of_getElem? (i := 744) (by decide +kernel), List.mem_of_getElem? (i := 936) (by decide +kernel), List.mem_of_getElem? (i := 937) (by decide +kernel)⟩
theorem lw_p33 : lw_okq (⟨"DeckFrontModel", "expression", "(I)Z"⟩, 36) := ⟨⟨by decide +kernel, by decide +kernel⟩, List.mem_of_getElem? (i := 744) (by decide +kernel), List.mem_of_getElem? (i := 940) (by decide +kernel), List.mem_of_getElem? (i := 941) (by decide +kernel)⟩
theorem lw_p34 : lw_okq (⟨"DeckFrontModel", "wanted", "(II)I"⟩, 36) := ⟨⟨by decide +kernel, by decide +kernel⟩, List.mem_of_getElem? (i := 744) (by decide +kernel), List.mem_of_getElem? (i := 944) (by decide +kernel), List.mem_of_getElem? (i := 945) (by decide +kernel)⟩
theorem lw_p35 : lw_okq (⟨"DeckFrontModel", "numberEnd", "(I)I"⟩, 36) := ⟨⟨by decide +kernel, by decide +kernel⟩, List.mem_of_getElem? (i := 744) (by decide +kernel), List.mem_of_getElem? (i := 948) (by decide +kernel), List.mem_of_getElem? (i := 949) (by decide +kernel)⟩
theorem lw_p36 : lw_okq (⟨"DeckFrontModel", "dots", "(I)I"⟩, 36) := ⟨⟨by decide +kernel, by decide +kernel⟩, List.mem_of_getElem? (i := 744) (by decide +kernel), List.mem_of_getElem? (i := 952) (by decide +kernel), List.mem_of_getElem? (i := 953) (by decide +kernel)⟩
theorem lw_p37 : lw_okq (⟨"DeckFrontModel", "nameEnd", "(I)I"⟩, 36) := ⟨⟨by decide +kernel, by decide +kernel⟩, List.mem_of_getElem? (i := 744) (by decide +kernel), List.mem_of_getElem? (i := 967) (by decide +kernel), List.mem_of_getElem? (i := 968) (by decide +kernel)⟩
theorem lw_p38 : lw_okq (⟨"DeckFrontModel", "part", "(IIIII)I"⟩, 36) := ⟨⟨by decide +kernel, by decide +kernel⟩, List.mem_of_getElem? (i := 744) (by decide +kernel), List.mem_of_getElem? (i := 971) (by decide +kernel), List.mem_of_getElem? (i := 972) (by decide +kernel)⟩
theorem lw_p39 : lw_okq (⟨"DeckFrontModel", "value", "(I)V"⟩, 36) := ⟨⟨by decide +kernel, by decide +kernel⟩, List.mem_of_getElem? (i := 744) (by decide +kernel), List.mem_of_getElem? (i := 975) (by decide +kernel), List.mem_of_getElem? (i := 976) (by decide +kernel)⟩
theorem lw_p40 : lw_okq (⟨"DeckFrontModel", "use", "(IIII)V"⟩, 36) := ⟨⟨by decide +kernel, by decide +kernel⟩, List.mem_of_getElem? (i := 744) (by decide +kernel), List.mem_of_getElem? (i := 979) (by decide +kernel), List.mem_of_getElem? (i := 980) (by decide +kernel)⟩
theorem lw_p41 : lw_okq (⟨"DeckFrontModel", "push", "(IIIZ)V"⟩, 36) := ⟨⟨by decide +kernel, by decide +kernel⟩, List.mem_of_getElem? (i := 744) (by decide +kernel), List.mem_of_getElem? (i := 983) (by decide +kernel), List.mem_of_getElem? (i := 984) (by decide +kernel)⟩
theorem lw_p42 : lw_okq (⟨"DeckFrontModel", "dotted", "(I)I"⟩, 36) := ⟨⟨by decide +kernel, by decide +kernel⟩, List.mem_of_getElem? (i := 744) (by decide +kernel), List.mem_of_getElem? (i := 987) (by decide +kernel), List.mem_of_getElem? (i := 988) (by decide +kernel)⟩
theorem lw_p43 : lw_okq (⟨"DeckFrontModel", "between", "()I"⟩, 36) := ⟨⟨by decide +kernel, by decide +kernel⟩, List.mem_of_getElem? (i := 744) (by decide +kernel), List.mem_of_getElem? (i := 991) (by decide +kernel), List.mem_of_getElem? (i := 992) (by decide +kernel)⟩
theorem lw_p44 : lw_okq (⟨"DeckFrontModel", "related", "()Z"⟩, 36) := ⟨⟨by decide +kernel, by decide +kernel⟩, List.mem_of_getElem? (i := 744) (by decide +kernel), List.mem_of_getElem? (i := 995) (by decide +kernel), List.mem_of_getElem? (i := 996) (by decide +kernel)⟩
theorem lw_p45 : lw_okq (⟨"DeckFrontModel", "reduce", "(I)V"⟩, 36) := ⟨⟨by decide +kernel, by decide +kernel⟩, List.mem_of_getElem? (i := 744) (by decide +kernel), List.mem_of_getElem? (i := 999) (by decide +kernel), List.mem_of_getElem? (i := 1000) (by decide +kernel)⟩
theorem lw_p46 : lw_okq (⟨"DeckFrontModel", "print", "(I)V"⟩, 36) := ⟨⟨by decide +kernel, by decide +kernel⟩, List.mem_of_getElem? (i := 744) (by decide +kernel), List.mem_of_getElem? (i := 1003) (by decide +kernel), List.mem_of_getElem? (i := 1004) (by decide +kernel)⟩
theorem lw_p47 : lw_okq (⟨"DeckFrontModel", "joins", "()V"⟩, 36) := ⟨⟨by decide +kernel, by decide +kernel⟩, List.mem_of_getElem? (i := 744) (by decide +kernel), List.mem_of_getElem? (i := 1007) (by decide +kernel), List.mem_of_getElem? (i := 1008) (by decide +kernel)⟩
def lw_privs_3 : List (MethodName × Nat) := [(⟨"DeckFrontModel", "put", "(I)V"⟩, 36), (⟨"DeckFrontModel", "expression", "(I)Z"⟩, 36), (⟨"DeckFrontModel", "wanted", "(II)I"⟩, 36), (⟨"DeckFrontModel", "numberEnd", "(I)I"⟩, 36), (⟨"DeckFrontModel", "dots", "(I)I"⟩, 36), (⟨"DeckFrontModel", "nameEnd", "(I)I"⟩, 36), (⟨"DeckFrontModel", "part", "(IIIII)I"⟩, 36), (⟨"DeckFrontModel", "value", "(I)V"⟩, 36), (⟨"DeckFrontModel", "use", "(IIII)V"⟩, 36), (⟨"DeckFrontModel", "push", "(IIIZ)V"⟩, 36), (⟨"DeckFrontModel", "dotted", "(I)I"⟩, 36), (⟨"DeckFrontModel", "between", "()I"⟩, 36), (⟨"DeckFrontModel", "related", "()Z"⟩, 36), (⟨"DeckFrontModel", "reduce", "(I)V"⟩, 36), (⟨"DeckFrontModel", "print", "(I)V"⟩, 36), (⟨"DeckFrontModel", "joins", "()V"⟩, 36)]
theorem lw_r3 : ∀ q ∈ lw_privs_3, lw_okq q := List.forall_mem_cons.mpr ⟨lw_p32, List.forall_mem_cons.mpr ⟨lw_p33, List.forall_mem_cons.mpr ⟨lw_p34, List.forall_mem_cons.mpr ⟨lw_p35, List.forall_mem_cons.mpr ⟨lw_p36, List.forall_mem_cons.mpr ⟨lw_p37, List.forall_mem_cons.mpr ⟨lw_p38, List.forall_mem_cons.mpr ⟨lw_p39, List.forall_mem_cons.mpr ⟨lw_p40, List.forall_mem_cons.mpr ⟨lw_p41, List.forall_mem_cons.mpr ⟨lw_p42, List.forall_mem_cons.mpr ⟨lw_p43, List.forall_mem_cons.mpr ⟨lw_p44, List.forall_mem_cons.mpr ⟨lw_p45, List.forall_mem_cons.mpr ⟨lw_p46, List.forall_mem_cons.mpr ⟨lw_p47, fun _ h => absurd h List.not_mem_nil⟩⟩⟩⟩⟩⟩⟩⟩⟩⟩⟩⟩⟩⟩⟩⟩
theorem lw_p48 : lw_okq (⟨"DeckFrontModel", "sign", "(I)Z"⟩, 36) := ⟨⟨by decide +kernel, by decide +kernel⟩, List.mem_of_getElem? (i := 744) (by decide +kernel), List.mem_of_getElem? (i := 1011) (by decide +kernel), List.mem_of_getElem? (i := 1012) (by decide +kernel)⟩
theorem lw_p49 : lw_okq (⟨"DeckFrontModel", "behind", "()I"⟩, 36) := ⟨⟨by decide +kernel, by decide +kernel⟩, List.mem_of_getElem? (i := 744) (by decide +kernel), List.mem_of_getElem? (i := 1015) (by decide +kernel), List.mem_of_getElem? (i := 1016) (by decide +kernel)⟩
theorem lw_p50 : lw_okq (⟨"DeckFrontModel", "simple", "(I)Z"⟩, 36) := ⟨⟨by decide +kernel, by decide +kernel⟩, List.mem_of_getElem? (i := 744) (by decide +kernel), List.mem_of_getElem? (i := 1019) (by decide +kernel), List.mem_of_getElem? (i := 1020) (by decide +kernel)⟩
theorem lw_p51 : lw_okq (⟨"DeckFrontModel", "isDo", "()Z"⟩, 36) := ⟨⟨by decide +kernel, by decide +kernel⟩, List.mem_of_getElem? (i := 744) (by decide +kernel), List.mem_of_getElem? (i := 1023) (by decide +kernel), List.mem_of_getElem? (i := 1024) (by decide +kernel)⟩
theorem lw_p52 : lw_okq (⟨"DeckFrontModel", "digits", "(I)I"⟩, 36) := ⟨⟨by decide +kernel, by decide +kernel⟩, List.mem_of_getElem? (i := 744) (by decide +kernel), List.mem_of_getElem? (i := 1028) (by decide +kernel), List.mem_of_getElem? (i := 1029) (by decide +kernel)⟩
theorem lw_p53 : lw_okq (⟨"DeckFrontModel", "comma", "()V"⟩, 36) := ⟨⟨by decide +kernel, by decide +kernel⟩, List.mem_of_getElem? (i := 744) (by decide +kernel), List.mem_of_getElem? (i := 1032) (by decide +kernel), List.mem_of_getElem? (i := 1033) (by decide +kernel)⟩
theorem lw_p54 : lw_okq (⟨"DeckFrontModel", "name", "(II)Z"⟩, 36) := ⟨⟨by decide +kernel, by decide +kernel⟩, List.mem_of_getElem? (i := 744) (by decide +kernel), List.mem_of_getElem? (i := 1036) (by decide +kernel), List.mem_of_getElem? (i := 1037) (by decide +kernel)⟩
theorem lw_p55 : lw_okq (⟨"DeckFrontModel", "isAssignment", "()Z"⟩, 36) := ⟨⟨by decide +kernel, by decide +kernel⟩, List.mem_of_getElem? (i := 744) (by decide +kernel), List.mem_of_getElem? (i := 1040) (by decide +kernel), List.mem_of_getElem? (i := 1041) (by decide +kernel)⟩
theorem lw_p56 : lw_okq (⟨"DeckFrontModel", "nameWithList", "(II)Z"⟩, 36) := ⟨⟨by decide +kernel, by decide +kernel⟩, List.mem_of_getElem? (i := 744) (by decide +kernel), List.mem_of_getElem? (i := 1044) (by decide +kernel), List.mem_of_getElem? (i := 1045) (by decide +kernel)⟩
theorem lw_p57 : lw_okq (⟨"DeckFrontModel", "expressions", "(I)Z"⟩, 36) := ⟨⟨by decide +kernel, by decide +kernel⟩, List.mem_of_getElem? (i := 744) (by decide +kernel), List.mem_of_getElem? (i := 1048) (by decide +kernel), List.mem_of_getElem? (i := 1049) (by decide +kernel)⟩
theorem lw_p58 : lw_okq (⟨"DeckFrontModel", "isThen", "(J)Z"⟩, 36) := ⟨⟨by decide +kernel, by decide +kernel⟩, List.mem_of_getElem? (i := 744) (by decide +kernel), List.mem_of_getElem? (i := 1052) (by decide +kernel), List.mem_of_getElem? (i := 1053) (by decide +kernel)⟩
theorem lw_p59 : lw_okq (⟨"DeckFrontModel", "alone", "(JI)Z"⟩, 36) := ⟨⟨by decide +kernel, by decide +kernel⟩, List.mem_of_getElem? (i := 744) (by decide +kernel), List.mem_of_getElem? (i := 1059) (by decide +kernel), List.mem_of_getElem? (i := 1060) (by decide +kernel)⟩
theorem lw_p60 : lw_okq (⟨"DeckFrontModel", "isGoTo", "()Z"⟩, 36) := ⟨⟨by decide +kernel, by decide +kernel⟩, List.mem_of_getElem? (i := 744) (by decide +kernel), List.mem_of_getElem? (i := 1065) (by decide +kernel), List.mem_of_getElem? (i := 1066) (by decide +kernel)⟩
theorem lw_p61 : lw_okq (⟨"DeckFrontModel", "isCall", "()Z"⟩, 36) := ⟨⟨by decide +kernel, by decide +kernel⟩, List.mem_of_getElem? (i := 744) (by decide +kernel), List.mem_of_getElem? (i := 1070) (by decide +kernel), List.mem_of_getElem? (i := 1071) (by decide +kernel)⟩
theorem lw_p62 : lw_okq (⟨"DeckFrontModel", "isType", "()Z"⟩, 36) := ⟨⟨by decide +kernel, by decide +kernel⟩, List.mem_of_getElem? (i := 744) (by decide +kernel), List.mem_of_getElem? (i := 1079) (by decide +kernel), List.mem_of_getElem? (i := 1080) (by decide +kernel)⟩
theorem lw_p63 : lw_okq (⟨"DeckFrontModel", "isDimension", "()Z"⟩, 36) := ⟨⟨by decide +kernel, by decide +kernel⟩, List.mem_of_getElem? (i := 744) (by decide +kernel), List.mem_of_getElem? (i := 1086) (by decide +kernel), List.mem_of_getElem? (i := 1087) (by decide +kernel)⟩
def lw_privs_4 : List (MethodName × Nat) := [(⟨"DeckFrontModel", "sign", "(I)Z"⟩, 36), (⟨"DeckFrontModel", "behind", "()I"⟩, 36), (⟨"DeckFrontModel", "simple", "(I)Z"⟩, 36), (⟨"DeckFrontModel", "isDo", "()Z"⟩, 36), (⟨"DeckFrontModel", "digits", "(I)I"⟩, 36), (⟨"DeckFrontModel", "comma", "()V"⟩, 36), (⟨"DeckFrontModel", "name", "(II)Z"⟩, 36), (⟨"DeckFrontModel", "isAssignment", "()Z"⟩, 36), (⟨"DeckFrontModel", "nameWithList", "(II)Z"⟩, 36), (⟨"DeckFrontModel", "expressions", "(I)Z"⟩, 36), (⟨"DeckFrontModel", "isThen", "(J)Z"⟩, 36), (⟨"DeckFrontModel", "alone", "(JI)Z"⟩, 36), (⟨"DeckFrontModel", "isGoTo", "()Z"⟩, 36), (⟨"DeckFrontModel", "isCall", "()Z"⟩, 36), (⟨"DeckFrontModel", "isType", "()Z"⟩, 36), (⟨"DeckFrontModel", "isDimension", "()Z"⟩, 36)]
theorem lw_r4 : ∀ q ∈ lw_privs_4, lw_okq q := List.forall_mem_cons.mpr ⟨lw_p48, List.forall_mem_cons.mpr ⟨lw_p49, List.forall_mem_cons.mpr ⟨lw_p50, List.forall_mem_cons.mpr ⟨lw_p51, List.forall_mem_cons.mpr ⟨lw_p52, List.forall_mem_cons.mpr ⟨lw_p53, List.forall_mem_cons.mpr ⟨lw_p54, List.forall_mem_cons.mpr ⟨lw_p55, List.forall_mem_cons.mpr ⟨lw_p56, List.forall_mem_cons.mpr ⟨lw_p57, List.forall_mem_cons.mpr ⟨lw_p58, List.forall_mem_cons.mpr ⟨lw_p59, List.forall_mem_cons.mpr ⟨lw_p60, List.forall_mem_cons.mpr ⟨lw_p61, List.forall_mem_cons.mpr ⟨lw_p62, List.forall_mem_cons.mpr ⟨lw_p63, fun _ h => absurd h List.not_mem_nil⟩⟩⟩⟩⟩⟩⟩⟩⟩⟩⟩⟩⟩⟩⟩⟩
theorem lw_p64 : lw_okq (⟨"DeckFrontModel", "isComputed", "()Z"⟩, 36) := ⟨⟨by decide +kernel, by decide +kernel⟩, List.mem_of_getElem? (i := 744) (by decide +kernel), List.mem_of_getElem? (i := 1091) (by decide +kernel), List.mem_of_getElem? (i := 1092) (by decide +kernel)⟩
theorem lw_p65 : lw_okq (⟨"DeckFrontModel", "firstFault", "()I"⟩, 36) := ⟨⟨by decide +kernel, by decide +kernel⟩, List.mem_of_getElem? (i := 744) (by decide +kernel), List.mem_of_getElem? (i := 1119) (by decide +kernel), List.mem_of_getElem? (i := 1120) (by decide +kernel)⟩
theorem lw_p66 : lw_okq (⟨"DeckFrontModel", "early", "(IIZ)I"⟩, 36) := ⟨⟨by decide +kernel, by decide +kernel⟩, List.mem_of_getElem? (i := 744) (by decide +kernel), List.mem_of_getElem? (i := 1123) (by decide +kernel), List.mem_of_getElem? (i := 1124) (by decide +kernel)⟩
theorem lw_p67 : lw_okq (⟨"DeckFrontModel", "isOpen", "(I)Z"⟩, 36) := ⟨⟨by decide +kernel, by decide +kernel⟩, List.mem_of_getElem? (i := 744) (by decide +kernel), List.mem_of_getElem? (i := 1127) (by decide +kernel), List.mem_of_getElem? (i := 1128) (by decide +kernel)⟩
theorem lw_p68 : lw_okq (⟨"DeckFrontModel", "later", "(II)I"⟩, 36) := ⟨⟨by decide +kernel, by decide +kernel⟩, List.mem_of_getElem? (i := 744) (by decide +kernel), List.mem_of_getElem? (i := 1131) (by decide +kernel), List.mem_of_getElem? (i := 1132) (by decide +kernel)⟩
theorem lw_p69 : lw_okq (⟨"DeckFrontModel", "isLabel", "(II)Z"⟩, 36) := ⟨⟨by decide +kernel, by decide +kernel⟩, List.mem_of_getElem? (i := 744) (by decide +kernel), List.mem_of_getElem? (i := 1135) (by decide +kernel), List.mem_of_getElem? (i := 1136) (by decide +kernel)⟩
def lw_privs_5 : List (MethodName × Nat) := [(⟨"DeckFrontModel", "isComputed", "()Z"⟩, 36), (⟨"DeckFrontModel", "firstFault", "()I"⟩, 36), (⟨"DeckFrontModel", "early", "(IIZ)I"⟩, 36), (⟨"DeckFrontModel", "isOpen", "(I)Z"⟩, 36), (⟨"DeckFrontModel", "later", "(II)I"⟩, 36), (⟨"DeckFrontModel", "isLabel", "(II)Z"⟩, 36)]
theorem lw_r5 : ∀ q ∈ lw_privs_5, lw_okq q := List.forall_mem_cons.mpr ⟨lw_p64, List.forall_mem_cons.mpr ⟨lw_p65, List.forall_mem_cons.mpr ⟨lw_p66, List.forall_mem_cons.mpr ⟨lw_p67, List.forall_mem_cons.mpr ⟨lw_p68, List.forall_mem_cons.mpr ⟨lw_p69, fun _ h => absurd h List.not_mem_nil⟩⟩⟩⟩⟩⟩
def lw_privs : List (MethodName × Nat) := lw_privs_1 ++ (lw_privs_2 ++ (lw_privs_3 ++ (lw_privs_4 ++ (lw_privs_5))))
def lw_tbl : List Cond := k2_sels lw_privs ++ tables_1
theorem lw_privs_ok : ∀ q ∈ lw_privs, lw_okq q := by
  show ∀ q ∈ lw_privs_1 ++ (lw_privs_2 ++ (lw_privs_3 ++ (lw_privs_4 ++ (lw_privs_5)))), lw_okq q
  exact List.forall_mem_append.mpr ⟨lw_r1, List.forall_mem_append.mpr ⟨lw_r2, List.forall_mem_append.mpr ⟨lw_r3, List.forall_mem_append.mpr ⟨lw_r4, lw_r5⟩⟩⟩⟩
end
section
/-! words: the good ones of the tables, by their places -/
abbrev tpM (n d : String) : MethodName := ⟨"DeckFront$Tape", n, d⟩
/-- of a Statement the private methods of Tape are the ones that are called -/
def tpSel : List Cond := [.selects "DeckFront$Statement" (tpM "nameAt" "(I)J") (tpM "nameAt" "(I)J"), .selects "DeckFront$Statement" (tpM "digitsEnd" "(I)I") (tpM "digitsEnd" "(I)I"), .selects "DeckFront$Statement" (tpM "standsLogicalWord" "(I)Z") (tpM "standsLogicalWord" "(I)Z")]
def wG : List Cond := (tpSel ++ lw_tbl).filter goodWord
theorem wg_in {w : Cond} (h : w ∈ lw_tbl) (hg : goodWord w = true) : w ∈ wG := List.mem_filter.mpr ⟨List.mem_append_right _ h, hg⟩
theorem wg_sel {w : Cond} (h : w ∈ tpSel) (hg : goodWord w = true) : w ∈ wG := List.mem_filter.mpr ⟨List.mem_append_left _ h, hg⟩
theorem wg_tb {w : Cond} (h : w ∈ wG) : w ∈ tpSel ∨ w ∈ lw_tbl := List.mem_append.mp (List.mem_filter.mp h).1
theorem tq_nameAt : Cond.selects "DeckFront$Statement" (tpM "nameAt" "(I)J") (tpM "nameAt" "(I)J") ∈ wG := wg_sel (List.mem_of_getElem? (i := 0) rfl) rfl
theorem tq_digitsEnd : Cond.selects "DeckFront$Statement" (tpM "digitsEnd" "(I)I") (tpM "digitsEnd" "(I)I") ∈ wG := wg_sel (List.mem_of_getElem? (i := 1) rfl) rfl
theorem tq_standsLogicalWord : Cond.selects "DeckFront$Statement" (tpM "standsLogicalWord" "(I)Z") (tpM "standsLogicalWord" "(I)Z") ∈ wG := wg_sel (List.mem_of_getElem? (i := 2) rfl) rfl
theorem wt_1 {w : Cond} (h : w ∈ tables_1_1) : w ∈ lw_tbl := List.mem_append_right _ (List.mem_append_left _ h)
theorem wt_2 {w : Cond} (h : w ∈ tables_1_2) : w ∈ lw_tbl := List.mem_append_right _ (List.mem_append_right _ (List.mem_append_left _ h))
theorem wt_3 {w : Cond} (h : w ∈ tables_1_3) : w ∈ lw_tbl := List.mem_append_right _ (List.mem_append_right _ (List.mem_append_right _ (List.mem_append_left _ h)))
theorem wt_4 {w : Cond} (h : w ∈ tables_1_4) : w ∈ lw_tbl := List.mem_append_right _ (List.mem_append_right _ (List.mem_append_right _ (List.mem_append_right _ (List.mem_append_left _ h))))
theorem wt_5 {w : Cond} (h : w ∈ tables_1_5) : w ∈ lw_tbl := List.mem_append_right _ (List.mem_append_right _ (List.mem_append_right _ (List.mem_append_right _ (List.mem_append_right _ h))))
theorem gG {a b : Cond} (h : b ∈ wG) : GoodIn (a :: wG) (b :: wG) := fun w hw => by
  rcases List.mem_cons.mp hw with h' | h'
  · subst h'
    exact ⟨List.mem_cons_of_mem _ h, good_of_word (List.mem_filter.mp h).2⟩
  · exact ⟨List.mem_cons_of_mem _ h', good_of_word (List.mem_filter.mp h').2⟩
theorem cG {a b : Cond} (h : b ∈ wG) : b ∈ a :: wG := List.mem_cons_of_mem _ h
theorem tw_0 : (Jvm.Cond.initialized "DeckFrontLaw") ∈ wG := wg_in (wt_1 (List.mem_of_getElem? (i := 0) rfl)) rfl
theorem tw_1 : (Jvm.Cond.initialized "DeckFront") ∈ wG := wg_in (wt_1 (List.mem_of_getElem? (i := 1) rfl)) rfl
theorem tw_2 : (Jvm.Cond.initialized "DeckFront$Card") ∈ wG := wg_in (wt_1 (List.mem_of_getElem? (i := 2) rfl)) rfl
theorem tw_3 : (Jvm.Cond.initialized "DeckFront$Deck") ∈ wG := wg_in (wt_1 (List.mem_of_getElem? (i := 3) rfl)) rfl
theorem tw_4 : (Jvm.Cond.initialized "DeckFront$Tape") ∈ wG := wg_in (wt_1 (List.mem_of_getElem? (i := 4) rfl)) rfl
theorem tw_5 : (Jvm.Cond.initialized "DeckFront$Statement") ∈ wG := wg_in (wt_1 (List.mem_of_getElem? (i := 5) rfl)) rfl
theorem tw_6 : (Jvm.Cond.initialized "DeckFront$Structure") ∈ wG := wg_in (wt_1 (List.mem_of_getElem? (i := 6) rfl)) rfl
theorem tw_7 : (Jvm.Cond.initialized "DeckFrontModel") ∈ wG := wg_in (wt_1 (List.mem_of_getElem? (i := 7) rfl)) rfl
theorem tw_8 : (Jvm.Cond.initialized "java/lang/String") ∈ wG := wg_in (wt_1 (List.mem_of_getElem? (i := 8) rfl)) rfl
theorem tw_9 : (Jvm.Cond.initialized "java/lang/StringLatin1") ∈ wG := wg_in (wt_1 (List.mem_of_getElem? (i := 9) rfl)) rfl
theorem tw_10 : (Jvm.Cond.initialized "java/lang/Math") ∈ wG := wg_in (wt_1 (List.mem_of_getElem? (i := 10) rfl)) rfl
theorem tw_11 : (Jvm.Cond.initialized "java/lang/StringUTF16") ∈ wG := wg_in (wt_1 (List.mem_of_getElem? (i := 11) rfl)) rfl
theorem tw_12 : (Jvm.Cond.initialized "jdk/internal/util/Preconditions") ∈ wG := wg_in (wt_1 (List.mem_of_getElem? (i := 12) rfl)) rfl
theorem tw_13 : (Jvm.Cond.initialized "java/lang/Character") ∈ wG := wg_in (wt_1 (List.mem_of_getElem? (i := 13) rfl)) rfl
theorem tw_14 : (Jvm.Cond.initialized "java/lang/Throwable") ∈ wG := wg_in (wt_1 (List.mem_of_getElem? (i := 14) rfl)) rfl
theorem tw_15 : (Jvm.Cond.initialized "java/lang/Exception") ∈ wG := wg_in (wt_1 (List.mem_of_getElem? (i := 15) rfl)) rfl
theorem tw_16 : (Jvm.Cond.initialized "java/lang/RuntimeException") ∈ wG := wg_in (wt_1 (List.mem_of_getElem? (i := 16) rfl)) rfl
theorem tw_17 : (Jvm.Cond.initialized "java/lang/IllegalArgumentException") ∈ wG := wg_in (wt_1 (List.mem_of_getElem? (i := 17) rfl)) rfl
theorem tw_18 : (Jvm.Cond.initialized "java/lang/IllegalStateException") ∈ wG := wg_in (wt_1 (List.mem_of_getElem? (i := 18) rfl)) rfl
theorem tw_19 : (Jvm.Cond.classLink "DeckFrontLaw" (8 : Nat) "DeckFront") ∈ wG := wg_in (wt_1 (List.mem_of_getElem? (i := 19) rfl)) rfl
theorem tw_20 : (Jvm.Cond.instantiable "DeckFront" (3 : Nat)) ∈ wG := wg_in (wt_1 (List.mem_of_getElem? (i := 20) rfl)) rfl
theorem tw_21 : (Jvm.Cond.methodLink "DeckFrontLaw" (17 : Nat) ({ cls := "DeckFront", name := "<init>", desc := "()V" } : Jvm.MethodName)) ∈ wG := wg_in (wt_1 (List.mem_of_getElem? (i := 21) rfl)) rfl
theorem tw_22 : (Jvm.Cond.instanceMethod ({ cls := "DeckFront", name := "<init>", desc := "()V" } : Jvm.MethodName)) ∈ wG := wg_in (wt_1 (List.mem_of_getElem? (i := 22) rfl)) rfl
theorem tw_23 : (Jvm.Cond.code ({ cls := "DeckFront", name := "<init>", desc := "()V" } : Jvm.MethodName) prog_1_method_1_code (1 : Nat) (Option.none : Option Jvm.ClassFile.FieldType)) ∈ wG := wg_in (wt_1 (List.mem_of_getElem? (i := 23) rfl)) rfl
theorem tw_24 : (Jvm.Cond.methodLink "DeckFront" (1 : Nat) ({ cls := "java/lang/Object", name := "<init>", desc := "()V" } : Jvm.MethodName)) ∈ wG := wg_in (wt_1 (List.mem_of_getElem? (i := 24) rfl)) rfl
theorem tw_25 : (Jvm.Cond.instanceMethod ({ cls := "java/lang/Object", name := "<init>", desc := "()V" } : Jvm.MethodName)) ∈ wG := wg_in (wt_1 (List.mem_of_getElem? (i := 25) rfl)) rfl
theorem tw_26 : (Jvm.Cond.code ({ cls := "java/lang/Object", name := "<init>", desc := "()V" } : Jvm.MethodName) object_method_1_code (1 : Nat) (Option.none : Option Jvm.ClassFile.FieldType)) ∈ wG := wg_in (wt_1 (List.mem_of_getElem? (i := 26) rfl)) rfl
theorem tw_27 : (Jvm.Cond.classLink "DeckFront" (7 : Nat) "DeckFront$Card") ∈ wG := wg_in (wt_1 (List.mem_of_getElem? (i := 27) rfl)) rfl
theorem tw_28 : (Jvm.Cond.instantiable "DeckFront$Card" (2 : Nat)) ∈ wG := wg_in (wt_1 (List.mem_of_getElem? (i := 28) rfl)) rfl
theorem tw_30 : (Jvm.Cond.instanceMethod ({ cls := "DeckFront$Card", name := "<init>", desc := "()V" } : Jvm.MethodName)) ∈ wG := wg_in (wt_1 (List.mem_of_getElem? (i := 30) rfl)) rfl
theorem tw_31 : (Jvm.Cond.code ({ cls := "DeckFront$Card", name := "<init>", desc := "()V" } : Jvm.MethodName) prog_2_method_1_code (1 : Nat) (Option.none : Option Jvm.ClassFile.FieldType)) ∈ wG := wg_in (wt_1 (List.mem_of_getElem? (i := 31) rfl)) rfl
theorem tw_32 : (Jvm.Cond.methodLink "DeckFront$Card" (3 : Nat) ({ cls := "java/lang/Object", name := "<init>", desc := "()V" } : Jvm.MethodName)) ∈ wG := wg_in (wt_1 (List.mem_of_getElem? (i := 32) rfl)) rfl
theorem tw_33 : (Jvm.Cond.fieldLink "DeckFront$Card" (9 : Nat) "DeckFront$Card" "signs" "[C") ∈ wG := wg_in (wt_1 (List.mem_of_getElem? (i := 33) rfl)) rfl
theorem tw_34 : (Jvm.Cond.fieldLink "DeckFront$Tape" (39 : Nat) "DeckFront$Card" "signs" "[C") ∈ wG := wg_in (wt_1 (List.mem_of_getElem? (i := 34) rfl)) rfl
theorem tw_35 : (Jvm.Cond.fieldLink "DeckFront$Card" (19 : Nat) "DeckFront$Card" "length" "I") ∈ wG := wg_in (wt_1 (List.mem_of_getElem? (i := 35) rfl)) rfl
theorem tw_36 : (Jvm.Cond.fieldLink "DeckFront$Tape" (36 : Nat) "DeckFront$Card" "length" "I") ∈ wG := wg_in (wt_1 (List.mem_of_getElem? (i := 36) rfl)) rfl
theorem tw_37 : (Jvm.Cond.fieldLink "DeckFront" (38 : Nat) "DeckFront$Card" "length" "I") ∈ wG := wg_in (wt_1 (List.mem_of_getElem? (i := 37) rfl)) rfl
theorem tw_38 : (Jvm.Cond.laysFinal "DeckFront$Card" "DeckFront$Card" "signs" "[C") ∈ wG := wg_in (wt_1 (List.mem_of_getElem? (i := 38) rfl)) rfl
theorem tw_40 : (Jvm.Cond.lays "DeckFront$Card" "DeckFront$Card" "length" "I") ∈ wG := wg_in (wt_1 (List.mem_of_getElem? (i := 40) rfl)) rfl
theorem tw_43 : (Jvm.Cond.arrayClass Jvm.ClassFile.FieldType.char) ∈ wG := wg_in (wt_1 (List.mem_of_getElem? (i := 43) rfl)) rfl
theorem tw_44 : (Jvm.Cond.classLink "DeckFront" (16 : Nat) "DeckFront$Deck") ∈ wG := wg_in (wt_1 (List.mem_of_getElem? (i := 44) rfl)) rfl
theorem tw_45 : (Jvm.Cond.instantiable "DeckFront$Deck" (2 : Nat)) ∈ wG := wg_in (wt_1 (List.mem_of_getElem? (i := 45) rfl)) rfl
theorem tw_46 : (Jvm.Cond.methodLink "DeckFront" (18 : Nat) ({ cls := "DeckFront$Deck", name := "<init>", desc := "()V" } : Jvm.MethodName)) ∈ wG := wg_in (wt_1 (List.mem_of_getElem? (i := 46) rfl)) rfl
theorem tw_47 : (Jvm.Cond.instanceMethod ({ cls := "DeckFront$Deck", name := "<init>", desc := "()V" } : Jvm.MethodName)) ∈ wG := wg_in (wt_1 (List.mem_of_getElem? (i := 47) rfl)) rfl
theorem tw_48 : (Jvm.Cond.code ({ cls := "DeckFront$Deck", name := "<init>", desc := "()V" } : Jvm.MethodName) prog_3_method_1_code (2 : Nat) (Option.none : Option Jvm.ClassFile.FieldType)) ∈ wG := wg_in (wt_1 (List.mem_of_getElem? (i := 48) rfl)) rfl
theorem tw_49 : (Jvm.Cond.methodLink "DeckFront$Deck" (3 : Nat) ({ cls := "java/lang/Object", name := "<init>", desc := "()V" } : Jvm.MethodName)) ∈ wG := wg_in (wt_1 (List.mem_of_getElem? (i := 49) rfl)) rfl
theorem tw_50 : (Jvm.Cond.classLink "DeckFront$Deck" (9 : Nat) "DeckFront$Statement") ∈ wG := wg_in (wt_1 (List.mem_of_getElem? (i := 50) rfl)) rfl
theorem tw_52 : (Jvm.Cond.instantiable "DeckFront$Statement" (9 : Nat)) ∈ wG := wg_in (wt_1 (List.mem_of_getElem? (i := 52) rfl)) rfl
theorem tw_54 : (Jvm.Cond.instanceMethod ({ cls := "DeckFront$Statement", name := "<init>", desc := "()V" } : Jvm.MethodName)) ∈ wG := wg_in (wt_1 (List.mem_of_getElem? (i := 54) rfl)) rfl
theorem tw_55 : (Jvm.Cond.code ({ cls := "DeckFront$Statement", name := "<init>", desc := "()V" } : Jvm.MethodName) prog_4_method_1_code (1 : Nat) (Option.none : Option Jvm.ClassFile.FieldType)) ∈ wG := wg_in (wt_1 (List.mem_of_getElem? (i := 55) rfl)) rfl
theorem tw_57 : (Jvm.Cond.instanceMethod ({ cls := "DeckFront$Tape", name := "<init>", desc := "()V" } : Jvm.MethodName)) ∈ wG := wg_in (wt_1 (List.mem_of_getElem? (i := 57) rfl)) rfl
theorem tw_58 : (Jvm.Cond.code ({ cls := "DeckFront$Tape", name := "<init>", desc := "()V" } : Jvm.MethodName) prog_6_method_1_code (1 : Nat) (Option.none : Option Jvm.ClassFile.FieldType)) ∈ wG := wg_in (wt_1 (List.mem_of_getElem? (i := 58) rfl)) rfl
theorem tw_59 : (Jvm.Cond.methodLink "DeckFront$Tape" (3 : Nat) ({ cls := "java/lang/Object", name := "<init>", desc := "()V" } : Jvm.MethodName)) ∈ wG := wg_in (wt_1 (List.mem_of_getElem? (i := 59) rfl)) rfl
theorem tw_60 : (Jvm.Cond.fieldLink "DeckFront$Structure" (43 : Nat) "DeckFront$Statement" "number" "I") ∈ wG := wg_in (wt_1 (List.mem_of_getElem? (i := 60) rfl)) rfl
theorem tw_61 : (Jvm.Cond.fieldLink "DeckFront$Deck" (45 : Nat) "DeckFront$Statement" "number" "I") ∈ wG := wg_in (wt_1 (List.mem_of_getElem? (i := 61) rfl)) rfl
theorem tw_62 : (Jvm.Cond.fieldLink "DeckFront" (66 : Nat) "DeckFront$Statement" "number" "I") ∈ wG := wg_in (wt_1 (List.mem_of_getElem? (i := 62) rfl)) rfl
theorem tw_63 : (Jvm.Cond.fieldLink "DeckFront$Statement" (22 : Nat) "DeckFront$Statement" "is" "I") ∈ wG := wg_in (wt_1 (List.mem_of_getElem? (i := 63) rfl)) rfl
theorem tw_64 : (Jvm.Cond.fieldLink "DeckFront$Structure" (38 : Nat) "DeckFront$Statement" "is" "I") ∈ wG := wg_in (wt_1 (List.mem_of_getElem? (i := 64) rfl)) rfl
theorem tw_65 : (Jvm.Cond.fieldLink "DeckFront$Deck" (63 : Nat) "DeckFront$Statement" "is" "I") ∈ wG := wg_in (wt_1 (List.mem_of_getElem? (i := 65) rfl)) rfl
theorem tw_66 : (Jvm.Cond.fieldLink "DeckFront" (69 : Nat) "DeckFront$Statement" "is" "I") ∈ wG := wg_in (wt_1 (List.mem_of_getElem? (i := 66) rfl)) rfl
theorem tw_67 : (Jvm.Cond.fieldLink "DeckFront$Tape" (9 : Nat) "DeckFront$Tape" "text" "[C") ∈ wG := wg_in (wt_1 (List.mem_of_getElem? (i := 67) rfl)) rfl
theorem tw_68 : (Jvm.Cond.fieldLink "DeckFront$Statement" (190 : Nat) "DeckFront$Statement" "text" "[C") ∈ wG := wg_in (wt_1 (List.mem_of_getElem? (i := 68) rfl)) rfl
theorem tw_69 : (Jvm.Cond.sameField "DeckFront$Statement" "DeckFront$Tape" "text" "[C") ∈ wG := wg_in (wt_1 (List.mem_of_getElem? (i := 69) rfl)) rfl
theorem tw_70 : (Jvm.Cond.fieldLink "DeckFront$Tape" (15 : Nat) "DeckFront$Tape" "opens" "[I") ∈ wG := wg_in (wt_1 (List.mem_of_getElem? (i := 70) rfl)) rfl
theorem tw_71 : (Jvm.Cond.fieldLink "DeckFront$Statement" (130 : Nat) "DeckFront$Statement" "opens" "[I") ∈ wG := wg_in (wt_1 (List.mem_of_getElem? (i := 71) rfl)) rfl
theorem tw_72 : (Jvm.Cond.sameField "DeckFront$Statement" "DeckFront$Tape" "opens" "[I") ∈ wG := wg_in (wt_1 (List.mem_of_getElem? (i := 72) rfl)) rfl
theorem tw_73 : (Jvm.Cond.fieldLink "DeckFront$Tape" (19 : Nat) "DeckFront$Tape" "closes" "[I") ∈ wG := wg_in (wt_1 (List.mem_of_getElem? (i := 73) rfl)) rfl
theorem tw_74 : (Jvm.Cond.fieldLink "DeckFront$Tape" (22 : Nat) "DeckFront$Tape" "roles" "[I") ∈ wG := wg_in (wt_1 (List.mem_of_getElem? (i := 74) rfl)) rfl
theorem tw_75 : (Jvm.Cond.fieldLink "DeckFront$Structure" (89 : Nat) "DeckFront$Statement" "roles" "[I") ∈ wG := wg_in (wt_1 (List.mem_of_getElem? (i := 75) rfl)) rfl
theorem tw_76 : (Jvm.Cond.sameField "DeckFront$Statement" "DeckFront$Tape" "roles" "[I") ∈ wG := wg_in (wt_1 (List.mem_of_getElem? (i := 76) rfl)) rfl
theorem tw_77 : (Jvm.Cond.fieldLink "DeckFront$Statement" (185 : Nat) "DeckFront$Statement" "roles" "[I") ∈ wG := wg_in (wt_1 (List.mem_of_getElem? (i := 77) rfl)) rfl
theorem tw_78 : (Jvm.Cond.fieldLink "DeckFront$Tape" (25 : Nat) "DeckFront$Tape" "length" "I") ∈ wG := wg_in (wt_1 (List.mem_of_getElem? (i := 78) rfl)) rfl
theorem tw_79 : (Jvm.Cond.fieldLink "DeckFront$Statement" (9 : Nat) "DeckFront$Statement" "length" "I") ∈ wG := wg_in (wt_1 (List.mem_of_getElem? (i := 79) rfl)) rfl
theorem tw_80 : (Jvm.Cond.sameField "DeckFront$Statement" "DeckFront$Tape" "length" "I") ∈ wG := wg_in (wt_1 (List.mem_of_getElem? (i := 80) rfl)) rfl
theorem tw_81 : (Jvm.Cond.fieldLink "DeckFront$Structure" (86 : Nat) "DeckFront$Statement" "length" "I") ∈ wG := wg_in (wt_1 (List.mem_of_getElem? (i := 81) rfl)) rfl
theorem tw_82 : (Jvm.Cond.fieldLink "DeckFront$Statement" (15 : Nat) "DeckFront$Statement" "at" "I") ∈ wG := wg_in (wt_1 (List.mem_of_getElem? (i := 82) rfl)) rfl
theorem tw_83 : (Jvm.Cond.sameField "DeckFront$Statement" "DeckFront$Tape" "at" "I") ∈ wG := wg_in (wt_1 (List.mem_of_getElem? (i := 83) rfl)) rfl
theorem tw_84 : (Jvm.Cond.fieldLink "DeckFront$Tape" (29 : Nat) "DeckFront$Tape" "at" "I") ∈ wG := wg_in (wt_1 (List.mem_of_getElem? (i := 84) rfl)) rfl
theorem tw_85 : (Jvm.Cond.fieldLink "DeckFront$Tape" (32 : Nat) "DeckFront$Tape" "inQuote" "Z") ∈ wG := wg_in (wt_1 (List.mem_of_getElem? (i := 85) rfl)) rfl
theorem tw_86 : (Jvm.Cond.lays "DeckFront$Statement" "DeckFront$Statement" "number" "I") ∈ wG := wg_in (wt_1 (List.mem_of_getElem? (i := 86) rfl)) rfl
theorem tw_88 : (Jvm.Cond.lays "DeckFront$Statement" "DeckFront$Statement" "is" "I") ∈ wG := wg_in (wt_1 (List.mem_of_getElem? (i := 88) rfl)) rfl
theorem tw_90 : (Jvm.Cond.laysFinal "DeckFront$Statement" "DeckFront$Tape" "text" "[C") ∈ wG := wg_in (wt_1 (List.mem_of_getElem? (i := 90) rfl)) rfl
theorem tw_92 : (Jvm.Cond.laysFinal "DeckFront$Statement" "DeckFront$Tape" "opens" "[I") ∈ wG := wg_in (wt_1 (List.mem_of_getElem? (i := 92) rfl)) rfl
theorem tw_94 : (Jvm.Cond.laysFinal "DeckFront$Statement" "DeckFront$Tape" "closes" "[I") ∈ wG := wg_in (wt_1 (List.mem_of_getElem? (i := 94) rfl)) rfl
theorem tw_96 : (Jvm.Cond.laysFinal "DeckFront$Statement" "DeckFront$Tape" "roles" "[I") ∈ wG := wg_in (wt_1 (List.mem_of_getElem? (i := 96) rfl)) rfl
theorem tw_98 : (Jvm.Cond.lays "DeckFront$Statement" "DeckFront$Tape" "length" "I") ∈ wG := wg_in (wt_1 (List.mem_of_getElem? (i := 98) rfl)) rfl
theorem tw_100 : (Jvm.Cond.lays "DeckFront$Statement" "DeckFront$Tape" "at" "I") ∈ wG := wg_in (wt_1 (List.mem_of_getElem? (i := 100) rfl)) rfl
theorem tw_102 : (Jvm.Cond.lays "DeckFront$Statement" "DeckFront$Tape" "inQuote" "Z") ∈ wG := wg_in (wt_1 (List.mem_of_getElem? (i := 102) rfl)) rfl
theorem tw_105 : (Jvm.Cond.arrayClass Jvm.ClassFile.FieldType.int) ∈ wG := wg_in (wt_1 (List.mem_of_getElem? (i := 105) rfl)) rfl
theorem tw_106 : (Jvm.Cond.fieldLink "DeckFront$Deck" (11 : Nat) "DeckFront$Deck" "rows" "[LDeckFront$Statement;") ∈ wG := wg_in (wt_1 (List.mem_of_getElem? (i := 106) rfl)) rfl
theorem tw_107 : (Jvm.Cond.fieldLink "DeckFront$Structure" (34 : Nat) "DeckFront$Deck" "rows" "[LDeckFront$Statement;") ∈ wG := wg_in (wt_1 (List.mem_of_getElem? (i := 107) rfl)) rfl
theorem tw_108 : (Jvm.Cond.fieldLink "DeckFront$Deck" (18 : Nat) "DeckFront$Deck" "count" "I") ∈ wG := wg_in (wt_1 (List.mem_of_getElem? (i := 108) rfl)) rfl
theorem tw_109 : (Jvm.Cond.fieldLink "DeckFront$Structure" (25 : Nat) "DeckFront$Deck" "count" "I") ∈ wG := wg_in (wt_1 (List.mem_of_getElem? (i := 109) rfl)) rfl
theorem tw_110 : (Jvm.Cond.fieldLink "DeckFront" (63 : Nat) "DeckFront$Deck" "count" "I") ∈ wG := wg_in (wt_1 (List.mem_of_getElem? (i := 110) rfl)) rfl
theorem tw_111 : (Jvm.Cond.laysFinal "DeckFront$Deck" "DeckFront$Deck" "rows" "[LDeckFront$Statement;") ∈ wG := wg_in (wt_1 (List.mem_of_getElem? (i := 111) rfl)) rfl
theorem tw_113 : (Jvm.Cond.lays "DeckFront$Deck" "DeckFront$Deck" "count" "I") ∈ wG := wg_in (wt_1 (List.mem_of_getElem? (i := 113) rfl)) rfl
theorem tw_116 : (Jvm.Cond.classLink "DeckFront" (23 : Nat) "DeckFront$Structure") ∈ wG := wg_in (wt_1 (List.mem_of_getElem? (i := 116) rfl)) rfl
theorem tw_117 : (Jvm.Cond.instantiable "DeckFront$Structure" (4 : Nat)) ∈ wG := wg_in (wt_1 (List.mem_of_getElem? (i := 117) rfl)) rfl
theorem tw_119 : (Jvm.Cond.instanceMethod ({ cls := "DeckFront$Structure", name := "<init>", desc := "()V" } : Jvm.MethodName)) ∈ wG := wg_in (wt_1 (List.mem_of_getElem? (i := 119) rfl)) rfl
theorem tw_120 : (Jvm.Cond.code ({ cls := "DeckFront$Structure", name := "<init>", desc := "()V" } : Jvm.MethodName) prog_5_method_1_code (1 : Nat) (Option.none : Option Jvm.ClassFile.FieldType)) ∈ wG := wg_in (wt_1 (List.mem_of_getElem? (i := 120) rfl)) rfl
theorem tw_121 : (Jvm.Cond.methodLink "DeckFront$Structure" (3 : Nat) ({ cls := "java/lang/Object", name := "<init>", desc := "()V" } : Jvm.MethodName)) ∈ wG := wg_in (wt_1 (List.mem_of_getElem? (i := 121) rfl)) rfl
theorem tw_122 : (Jvm.Cond.fieldLink "DeckFront$Structure" (9 : Nat) "DeckFront$Structure" "open" "[I") ∈ wG := wg_in (wt_1 (List.mem_of_getElem? (i := 122) rfl)) rfl
theorem tw_123 : (Jvm.Cond.fieldLink "DeckFront$Structure" (15 : Nat) "DeckFront$Structure" "depth" "I") ∈ wG := wg_in (wt_1 (List.mem_of_getElem? (i := 123) rfl)) rfl
theorem tw_124 : (Jvm.Cond.fieldLink "DeckFront$Structure" (19 : Nat) "DeckFront$Structure" "found" "I") ∈ wG := wg_in (wt_1 (List.mem_of_getElem? (i := 124) rfl)) rfl
theorem tw_125 : (Jvm.Cond.fieldLink "DeckFront" (91 : Nat) "DeckFront$Structure" "found" "I") ∈ wG := wg_in (wt_1 (List.mem_of_getElem? (i := 125) rfl)) rfl
theorem tw_126 : (Jvm.Cond.fieldLink "DeckFront$Structure" (22 : Nat) "DeckFront$Structure" "place" "I") ∈ wG := wg_in (wt_1 (List.mem_of_getElem? (i := 126) rfl)) rfl
theorem tw_127 : (Jvm.Cond.fieldLink "DeckFront" (94 : Nat) "DeckFront$Structure" "place" "I") ∈ wG := wg_in (wt_1 (List.mem_of_getElem? (i := 127) rfl)) rfl
theorem tw_128 : (Jvm.Cond.laysFinal "DeckFront$Structure" "DeckFront$Structure" "open" "[I") ∈ wG := wg_in (wt_1 (List.mem_of_getElem? (i := 128) rfl)) rfl
theorem tw_130 : (Jvm.Cond.lays "DeckFront$Structure" "DeckFront$Structure" "depth" "I") ∈ wG := wg_in (wt_1 (List.mem_of_getElem? (i := 130) rfl)) rfl
theorem tw_132 : (Jvm.Cond.lays "DeckFront$Structure" "DeckFront$Structure" "found" "I") ∈ wG := wg_in (wt_1 (List.mem_of_getElem? (i := 132) rfl)) rfl
theorem tw_134 : (Jvm.Cond.lays "DeckFront$Structure" "DeckFront$Structure" "place" "I") ∈ wG := wg_in (wt_1 (List.mem_of_getElem? (i := 134) rfl)) rfl
theorem tw_137 : (Jvm.Cond.fieldLink "DeckFront" (10 : Nat) "DeckFront" "written" "LDeckFront$Card;") ∈ wG := wg_in (wt_1 (List.mem_of_getElem? (i := 137) rfl)) rfl
theorem tw_138 : (Jvm.Cond.fieldLink "DeckFront" (19 : Nat) "DeckFront" "deck" "LDeckFront$Deck;") ∈ wG := wg_in (wt_1 (List.mem_of_getElem? (i := 138) rfl)) rfl
theorem tw_139 : (Jvm.Cond.fieldLink "DeckFront" (26 : Nat) "DeckFront" "structure" "LDeckFront$Structure;") ∈ wG := wg_in (wt_1 (List.mem_of_getElem? (i := 139) rfl)) rfl
theorem tw_140 : (Jvm.Cond.laysFinal "DeckFront" "DeckFront" "written" "LDeckFront$Card;") ∈ wG := wg_in (wt_1 (List.mem_of_getElem? (i := 140) rfl)) rfl
theorem tw_142 : (Jvm.Cond.laysFinal "DeckFront" "DeckFront" "deck" "LDeckFront$Deck;") ∈ wG := wg_in (wt_1 (List.mem_of_getElem? (i := 142) rfl)) rfl
theorem tw_144 : (Jvm.Cond.laysFinal "DeckFront" "DeckFront" "structure" "LDeckFront$Structure;") ∈ wG := wg_in (wt_1 (List.mem_of_getElem? (i := 144) rfl)) rfl
theorem tw_147 : (Jvm.Cond.methodLink "DeckFrontLaw" (23 : Nat) ({ cls := "DeckFront", name := "write", desc := "(J)Z" } : Jvm.MethodName)) ∈ wG := wg_in (wt_1 (List.mem_of_getElem? (i := 147) rfl)) rfl
theorem tw_148 : (Jvm.Cond.instanceMethod ({ cls := "DeckFront", name := "write", desc := "(J)Z" } : Jvm.MethodName)) ∈ wG := wg_in (wt_1 (List.mem_of_getElem? (i := 148) rfl)) rfl
theorem tw_149 : (Jvm.Cond.selects "DeckFront" ({ cls := "DeckFront", name := "write", desc := "(J)Z" } : Jvm.MethodName) ({ cls := "DeckFront", name := "write", desc := "(J)Z" } : Jvm.MethodName)) ∈ wG := wg_in (wt_1 (List.mem_of_getElem? (i := 149) rfl)) rfl
theorem tw_150 : (Jvm.Cond.code ({ cls := "DeckFront", name := "write", desc := "(J)Z" } : Jvm.MethodName) prog_1_method_2_code (3 : Nat) (Option.some Jvm.ClassFile.FieldType.boolean)) ∈ wG := wg_in (wt_1 (List.mem_of_getElem? (i := 150) rfl)) rfl
theorem tw_151 : (Jvm.Cond.methodLink "DeckFront" (30 : Nat) ({ cls := "DeckFront$Card", name := "append", desc := "(J)Z" } : Jvm.MethodName)) ∈ wG := wg_in (wt_1 (List.mem_of_getElem? (i := 151) rfl)) rfl
theorem tw_152 : (Jvm.Cond.instanceMethod ({ cls := "DeckFront$Card", name := "append", desc := "(J)Z" } : Jvm.MethodName)) ∈ wG := wg_in (wt_1 (List.mem_of_getElem? (i := 152) rfl)) rfl
theorem tw_153 : (Jvm.Cond.selects "DeckFront$Card" ({ cls := "DeckFront$Card", name := "append", desc := "(J)Z" } : Jvm.MethodName) ({ cls := "DeckFront$Card", name := "append", desc := "(J)Z" } : Jvm.MethodName)) ∈ wG := wg_in (wt_1 (List.mem_of_getElem? (i := 153) rfl)) rfl
theorem tw_154 : (Jvm.Cond.code ({ cls := "DeckFront$Card", name := "append", desc := "(J)Z" } : Jvm.MethodName) prog_2_method_2_code (6 : Nat) (Option.some Jvm.ClassFile.FieldType.boolean)) ∈ wG := wg_in (wt_1 (List.mem_of_getElem? (i := 154) rfl)) rfl
theorem tw_155 : (Jvm.Cond.methodLink "DeckFront$Card" (15 : Nat) ({ cls := "DeckFront$Card", name := "isCardSign", desc := "(I)Z" } : Jvm.MethodName)) ∈ wG := wg_in (wt_1 (List.mem_of_getElem? (i := 155) rfl)) rfl
theorem tw_156 : (Jvm.Cond.static ({ cls := "DeckFront$Card", name := "isCardSign", desc := "(I)Z" } : Jvm.MethodName)) ∈ wG := wg_in (wt_1 (List.mem_of_getElem? (i := 156) rfl)) rfl
theorem tw_157 : (Jvm.Cond.code ({ cls := "DeckFront$Card", name := "isCardSign", desc := "(I)Z" } : Jvm.MethodName) prog_2_method_3_code (1 : Nat) (Option.some Jvm.ClassFile.FieldType.boolean)) ∈ wG := wg_in (wt_1 (List.mem_of_getElem? (i := 157) rfl)) rfl
theorem tw_159 : (Jvm.Cond.static ({ cls := "DeckFront", name := "isLetter", desc := "(I)Z" } : Jvm.MethodName)) ∈ wG := wg_in (wt_1 (List.mem_of_getElem? (i := 159) rfl)) rfl
theorem tw_160 : (Jvm.Cond.code ({ cls := "DeckFront", name := "isLetter", desc := "(I)Z" } : Jvm.MethodName) prog_1_method_13_code (1 : Nat) (Option.some Jvm.ClassFile.FieldType.boolean)) ∈ wG := wg_in (wt_1 (List.mem_of_getElem? (i := 160) rfl)) rfl
theorem tw_162 : (Jvm.Cond.static ({ cls := "DeckFront", name := "isDigit", desc := "(I)Z" } : Jvm.MethodName)) ∈ wG := wg_in (wt_1 (List.mem_of_getElem? (i := 162) rfl)) rfl
theorem tw_163 : (Jvm.Cond.code ({ cls := "DeckFront", name := "isDigit", desc := "(I)Z" } : Jvm.MethodName) prog_1_method_14_code (1 : Nat) (Option.some Jvm.ClassFile.FieldType.boolean)) ∈ wG := wg_in (wt_1 (List.mem_of_getElem? (i := 163) rfl)) rfl
theorem tw_165 : (Jvm.Cond.methodLink "DeckFront$Card" (31 : Nat) ({ cls := "java/lang/String", name := "indexOf", desc := "(I)I" } : Jvm.MethodName)) ∈ wG := wg_in (wt_1 (List.mem_of_getElem? (i := 165) rfl)) rfl
theorem tw_166 : (Jvm.Cond.instanceMethod ({ cls := "java/lang/String", name := "indexOf", desc := "(I)I" } : Jvm.MethodName)) ∈ wG := wg_in (wt_1 (List.mem_of_getElem? (i := 166) rfl)) rfl
theorem tw_167 : (Jvm.Cond.selects "java/lang/String" ({ cls := "java/lang/String", name := "indexOf", desc := "(I)I" } : Jvm.MethodName) ({ cls := "java/lang/String", name := "indexOf", desc := "(I)I" } : Jvm.MethodName)) ∈ wG := wg_in (wt_1 (List.mem_of_getElem? (i := 167) rfl)) rfl
theorem tw_168 : (Jvm.Cond.code ({ cls := "java/lang/String", name := "indexOf", desc := "(I)I" } : Jvm.MethodName) prog_15_method_79_code (2 : Nat) (Option.some Jvm.ClassFile.FieldType.int)) ∈ wG := wg_in (wt_1 (List.mem_of_getElem? (i := 168) rfl)) rfl
theorem tw_169 : (Jvm.Cond.methodLink "java/lang/String" (633 : Nat) ({ cls := "java/lang/String", name := "indexOf", desc := "(II)I" } : Jvm.MethodName)) ∈ wG := wg_in (wt_1 (List.mem_of_getElem? (i := 169) rfl)) rfl
theorem tw_170 : (Jvm.Cond.instanceMethod ({ cls := "java/lang/String", name := "indexOf", desc := "(II)I" } : Jvm.MethodName)) ∈ wG := wg_in (wt_1 (List.mem_of_getElem? (i := 170) rfl)) rfl
theorem tw_171 : (Jvm.Cond.selects "java/lang/String" ({ cls := "java/lang/String", name := "indexOf", desc := "(II)I" } : Jvm.MethodName) ({ cls := "java/lang/String", name := "indexOf", desc := "(II)I" } : Jvm.MethodName)) ∈ wG := wg_in (wt_1 (List.mem_of_getElem? (i := 171) rfl)) rfl
theorem tw_172 : (Jvm.Cond.code ({ cls := "java/lang/String", name := "indexOf", desc := "(II)I" } : Jvm.MethodName) prog_15_method_80_code (3 : Nat) (Option.some Jvm.ClassFile.FieldType.int)) ∈ wG := wg_in (wt_1 (List.mem_of_getElem? (i := 172) rfl)) rfl
theorem tw_173 : (Jvm.Cond.methodLink "java/lang/String" (492 : Nat) ({ cls := "java/lang/String", name := "isLatin1", desc := "()Z" } : Jvm.MethodName)) ∈ wG := wg_in (wt_1 (List.mem_of_getElem? (i := 173) rfl)) rfl
theorem tw_174 : (Jvm.Cond.instanceMethod ({ cls := "java/lang/String", name := "isLatin1", desc := "()Z" } : Jvm.MethodName)) ∈ wG := wg_in (wt_1 (List.mem_of_getElem? (i := 174) rfl)) rfl
theorem tw_175 : (Jvm.Cond.selects "java/lang/String" ({ cls := "java/lang/String", name := "isLatin1", desc := "()Z" } : Jvm.MethodName) ({ cls := "java/lang/String", name := "isLatin1", desc := "()Z" } : Jvm.MethodName)) ∈ wG := wg_in (wt_1 (List.mem_of_getElem? (i := 175) rfl)) rfl
theorem tw_176 : (Jvm.Cond.code ({ cls := "java/lang/String", name := "isLatin1", desc := "()Z" } : Jvm.MethodName) prog_15_method_154_code (1 : Nat) (Option.some Jvm.ClassFile.FieldType.boolean)) ∈ wG := wg_in (wt_1 (List.mem_of_getElem? (i := 176) rfl)) rfl
theorem tw_177 : (Jvm.Cond.fieldLink "java/lang/String" (38 : Nat) "java/lang/String" "COMPACT_STRINGS" "Z") ∈ wG := wg_in (wt_1 (List.mem_of_getElem? (i := 177) rfl)) rfl
theorem tw_179 : (Jvm.Cond.methodLink "java/lang/String" (505 : Nat) ({ cls := "java/lang/String", name := "length", desc := "()I" } : Jvm.MethodName)) ∈ wG := wg_in (wt_1 (List.mem_of_getElem? (i := 179) rfl)) rfl
theorem tw_180 : (Jvm.Cond.instanceMethod ({ cls := "java/lang/String", name := "length", desc := "()I" } : Jvm.MethodName)) ∈ wG := wg_in (wt_1 (List.mem_of_getElem? (i := 180) rfl)) rfl
theorem tw_181 : (Jvm.Cond.selects "java/lang/String" ({ cls := "java/lang/String", name := "length", desc := "()I" } : Jvm.MethodName) ({ cls := "java/lang/String", name := "length", desc := "()I" } : Jvm.MethodName)) ∈ wG := wg_in (wt_1 (List.mem_of_getElem? (i := 181) rfl)) rfl
theorem tw_182 : (Jvm.Cond.code ({ cls := "java/lang/String", name := "length", desc := "()I" } : Jvm.MethodName) prog_15_method_54_code (1 : Nat) (Option.some Jvm.ClassFile.FieldType.int)) ∈ wG := wg_in (wt_1 (List.mem_of_getElem? (i := 182) rfl)) rfl
theorem tw_183 : (Jvm.Cond.methodLink "java/lang/String" (335 : Nat) ({ cls := "java/lang/String", name := "coder", desc := "()B" } : Jvm.MethodName)) ∈ wG := wg_in (wt_1 (List.mem_of_getElem? (i := 183) rfl)) rfl
theorem tw_184 : (Jvm.Cond.instanceMethod ({ cls := "java/lang/String", name := "coder", desc := "()B" } : Jvm.MethodName)) ∈ wG := wg_in (wt_1 (List.mem_of_getElem? (i := 184) rfl)) rfl
theorem tw_185 : (Jvm.Cond.selects "java/lang/String" ({ cls := "java/lang/String", name := "coder", desc := "()B" } : Jvm.MethodName) ({ cls := "java/lang/String", name := "coder", desc := "()B" } : Jvm.MethodName)) ∈ wG := wg_in (wt_1 (List.mem_of_getElem? (i := 185) rfl)) rfl
theorem tw_186 : (Jvm.Cond.code ({ cls := "java/lang/String", name := "coder", desc := "()B" } : Jvm.MethodName) prog_15_method_152_code (1 : Nat) (Option.some Jvm.ClassFile.FieldType.byte)) ∈ wG := wg_in (wt_1 (List.mem_of_getElem? (i := 186) rfl)) rfl
theorem tw_187 : (Jvm.Cond.methodLink "java/lang/String" (637 : Nat) ({ cls := "java/lang/StringLatin1", name := "indexOf", desc := "([BIII)I" } : Jvm.MethodName)) ∈ wG := wg_in (wt_1 (List.mem_of_getElem? (i := 187) rfl)) rfl
theorem tw_188 : (Jvm.Cond.static ({ cls := "java/lang/StringLatin1", name := "indexOf", desc := "([BIII)I" } : Jvm.MethodName)) ∈ wG := wg_in (wt_1 (List.mem_of_getElem? (i := 188) rfl)) rfl
theorem tw_189 : (Jvm.Cond.code ({ cls := "java/lang/StringLatin1", name := "indexOf", desc := "([BIII)I" } : Jvm.MethodName) prog_16_method_22_code (4 : Nat) (Option.some Jvm.ClassFile.FieldType.int)) ∈ wG := wg_in (wt_1 (List.mem_of_getElem? (i := 189) rfl)) rfl
theorem tw_190 : (Jvm.Cond.methodLink "java/lang/StringLatin1" (88 : Nat) ({ cls := "java/lang/StringLatin1", name := "canEncode", desc := "(I)Z" } : Jvm.MethodName)) ∈ wG := wg_in (wt_1 (List.mem_of_getElem? (i := 190) rfl)) rfl
theorem tw_191 : (Jvm.Cond.static ({ cls := "java/lang/StringLatin1", name := "canEncode", desc := "(I)Z" } : Jvm.MethodName)) ∈ wG := wg_in (wt_1 (List.mem_of_getElem? (i := 191) rfl)) rfl
theorem tw_192 : (Jvm.Cond.code ({ cls := "java/lang/StringLatin1", name := "canEncode", desc := "(I)Z" } : Jvm.MethodName) prog_16_method_4_code (1 : Nat) (Option.some Jvm.ClassFile.FieldType.boolean)) ∈ wG := wg_in (wt_1 (List.mem_of_getElem? (i := 192) rfl)) rfl
theorem tw_193 : (Jvm.Cond.methodLink "java/lang/StringLatin1" (92 : Nat) ({ cls := "java/lang/Math", name := "max", desc := "(II)I" } : Jvm.MethodName)) ∈ wG := wg_in (wt_1 (List.mem_of_getElem? (i := 193) rfl)) rfl
theorem tw_194 : (Jvm.Cond.static ({ cls := "java/lang/Math", name := "max", desc := "(II)I" } : Jvm.MethodName)) ∈ wG := wg_in (wt_1 (List.mem_of_getElem? (i := 194) rfl)) rfl
theorem tw_195 : (Jvm.Cond.code ({ cls := "java/lang/Math", name := "max", desc := "(II)I" } : Jvm.MethodName) prog_13_method_65_code (2 : Nat) (Option.some Jvm.ClassFile.FieldType.int)) ∈ wG := wg_in (wt_1 (List.mem_of_getElem? (i := 195) rfl)) rfl
theorem tw_196 : (Jvm.Cond.methodLink "java/lang/StringLatin1" (38 : Nat) ({ cls := "java/lang/Math", name := "min", desc := "(II)I" } : Jvm.MethodName)) ∈ wG := wg_in (wt_1 (List.mem_of_getElem? (i := 196) rfl)) rfl
theorem tw_197 : (Jvm.Cond.static ({ cls := "java/lang/Math", name := "min", desc := "(II)I" } : Jvm.MethodName)) ∈ wG := wg_in (wt_1 (List.mem_of_getElem? (i := 197) rfl)) rfl
theorem tw_198 : (Jvm.Cond.code ({ cls := "java/lang/Math", name := "min", desc := "(II)I" } : Jvm.MethodName) prog_13_method_69_code (2 : Nat) (Option.some Jvm.ClassFile.FieldType.int)) ∈ wG := wg_in (wt_1 (List.mem_of_getElem? (i := 198) rfl)) rfl
theorem tw_199 : (Jvm.Cond.methodLink "java/lang/StringLatin1" (95 : Nat) ({ cls := "java/lang/StringLatin1", name := "indexOfChar", desc := "([BIII)I" } : Jvm.MethodName)) ∈ wG := wg_in (wt_1 (List.mem_of_getElem? (i := 199) rfl)) rfl
theorem tw_200 : (Jvm.Cond.static ({ cls := "java/lang/StringLatin1", name := "indexOfChar", desc := "([BIII)I" } : Jvm.MethodName)) ∈ wG := wg_in (wt_1 (List.mem_of_getElem? (i := 200) rfl)) rfl
theorem tw_201 : (Jvm.Cond.code ({ cls := "java/lang/StringLatin1", name := "indexOfChar", desc := "([BIII)I" } : Jvm.MethodName) prog_16_method_23_code (6 : Nat) (Option.some Jvm.ClassFile.FieldType.int)) ∈ wG := wg_in (wt_1 (List.mem_of_getElem? (i := 201) rfl)) rfl
theorem tw_202 : (Jvm.Cond.methodLink "java/lang/String" (640 : Nat) ({ cls := "java/lang/StringUTF16", name := "indexOf", desc := "([BIII)I" } : Jvm.MethodName)) ∈ wG := wg_in (wt_1 (List.mem_of_getElem? (i := 202) rfl)) rfl
theorem tw_203 : (Jvm.Cond.static ({ cls := "java/lang/StringUTF16", name := "indexOf", desc := "([BIII)I" } : Jvm.MethodName)) ∈ wG := wg_in (wt_1 (List.mem_of_getElem? (i := 203) rfl)) rfl
theorem tw_204 : (Jvm.Cond.code ({ cls := "java/lang/StringUTF16", name := "indexOf", desc := "([BIII)I" } : Jvm.MethodName) prog_17_method_40_code (4 : Nat) (Option.some Jvm.ClassFile.FieldType.int)) ∈ wG := wg_in (wt_1 (List.mem_of_getElem? (i := 204) rfl)) rfl
theorem tw_205 : (Jvm.Cond.methodLink "java/lang/StringUTF16" (224 : Nat) ({ cls := "java/lang/Math", name := "max", desc := "(II)I" } : Jvm.MethodName)) ∈ wG := wg_in (wt_1 (List.mem_of_getElem? (i := 205) rfl)) rfl
theorem tw_206 : (Jvm.Cond.methodLink "java/lang/StringUTF16" (183 : Nat) ({ cls := "java/lang/Math", name := "min", desc := "(II)I" } : Jvm.MethodName)) ∈ wG := wg_in (wt_1 (List.mem_of_getElem? (i := 206) rfl)) rfl
theorem tw_207 : (Jvm.Cond.constant "java/lang/StringUTF16" (227 : Nat) (65536 : Int32)) ∈ wG := wg_in (wt_1 (List.mem_of_getElem? (i := 207) rfl)) rfl
theorem tw_208 : (Jvm.Cond.methodLink "java/lang/StringUTF16" (228 : Nat) ({ cls := "java/lang/StringUTF16", name := "indexOfChar", desc := "([BIII)I" } : Jvm.MethodName)) ∈ wG := wg_in (wt_1 (List.mem_of_getElem? (i := 208) rfl)) rfl
theorem tw_209 : (Jvm.Cond.static ({ cls := "java/lang/StringUTF16", name := "indexOfChar", desc := "([BIII)I" } : Jvm.MethodName)) ∈ wG := wg_in (wt_1 (List.mem_of_getElem? (i := 209) rfl)) rfl
theorem tw_210 : (Jvm.Cond.code ({ cls := "java/lang/StringUTF16", name := "indexOfChar", desc := "([BIII)I" } : Jvm.MethodName) prog_17_method_47_code (4 : Nat) (Option.some Jvm.ClassFile.FieldType.int)) ∈ wG := wg_in (wt_1 (List.mem_of_getElem? (i := 210) rfl)) rfl
theorem tw_211 : (Jvm.Cond.methodLink "java/lang/StringUTF16" (96 : Nat) ({ cls := "java/lang/StringUTF16", name := "checkBoundsBeginEnd", desc := "(II[B)V" } : Jvm.MethodName)) ∈ wG := wg_in (wt_1 (List.mem_of_getElem? (i := 211) rfl)) rfl
theorem tw_212 : (Jvm.Cond.static ({ cls := "java/lang/StringUTF16", name := "checkBoundsBeginEnd", desc := "(II[B)V" } : Jvm.MethodName)) ∈ wG := wg_in (wt_1 (List.mem_of_getElem? (i := 212) rfl)) rfl
theorem tw_213 : (Jvm.Cond.code ({ cls := "java/lang/StringUTF16", name := "checkBoundsBeginEnd", desc := "(II[B)V" } : Jvm.MethodName) prog_17_method_93_code (3 : Nat) (Option.none : Option Jvm.ClassFile.FieldType)) ∈ wG := wg_in (wt_1 (List.mem_of_getElem? (i := 213) rfl)) rfl
theorem tw_214 : (Jvm.Cond.methodLink "java/lang/StringUTF16" (48 : Nat) ({ cls := "java/lang/StringUTF16", name := "length", desc := "([B)I" } : Jvm.MethodName)) ∈ wG := wg_in (wt_1 (List.mem_of_getElem? (i := 214) rfl)) rfl
theorem tw_215 : (Jvm.Cond.static ({ cls := "java/lang/StringUTF16", name := "length", desc := "([B)I" } : Jvm.MethodName)) ∈ wG := wg_in (wt_1 (List.mem_of_getElem? (i := 215) rfl)) rfl
theorem tw_216 : (Jvm.Cond.code ({ cls := "java/lang/StringUTF16", name := "length", desc := "([B)I" } : Jvm.MethodName) prog_17_method_6_code (1 : Nat) (Option.some Jvm.ClassFile.FieldType.int)) ∈ wG := wg_in (wt_1 (List.mem_of_getElem? (i := 216) rfl)) rfl
theorem tw_217 : (Jvm.Cond.methodLink "java/lang/StringUTF16" (241 : Nat) ({ cls := "java/lang/String", name := "checkBoundsBeginEnd", desc := "(III)V" } : Jvm.MethodName)) ∈ wG := wg_in (wt_1 (List.mem_of_getElem? (i := 217) rfl)) rfl
theorem tw_218 : (Jvm.Cond.static ({ cls := "java/lang/String", name := "checkBoundsBeginEnd", desc := "(III)V" } : Jvm.MethodName)) ∈ wG := wg_in (wt_1 (List.mem_of_getElem? (i := 218) rfl)) rfl
theorem tw_219 : (Jvm.Cond.code ({ cls := "java/lang/String", name := "checkBoundsBeginEnd", desc := "(III)V" } : Jvm.MethodName) prog_15_method_158_code (3 : Nat) (Option.none : Option Jvm.ClassFile.FieldType)) ∈ wG := wg_in (wt_1 (List.mem_of_getElem? (i := 219) rfl)) rfl
theorem tw_220 : (Jvm.Cond.fieldLink "java/lang/String" (1053 : Nat) "jdk/internal/util/Preconditions" "SIOOBE_FORMATTER" "Ljava/util/function/BiFunction;") ∈ wG := wg_in (wt_1 (List.mem_of_getElem? (i := 220) rfl)) rfl
theorem tw_222 : (Jvm.Cond.methodLink "java/lang/String" (1062 : Nat) ({ cls := "jdk/internal/util/Preconditions", name := "checkFromToIndex", desc := "(IIILjava/util/function/BiFunction;)I" } : Jvm.MethodName)) ∈ wG := wg_in (wt_1 (List.mem_of_getElem? (i := 222) rfl)) rfl
theorem tw_223 : (Jvm.Cond.static ({ cls := "jdk/internal/util/Preconditions", name := "checkFromToIndex", desc := "(IIILjava/util/function/BiFunction;)I" } : Jvm.MethodName)) ∈ wG := wg_in (wt_1 (List.mem_of_getElem? (i := 223) rfl)) rfl
theorem tw_224 : (Jvm.Cond.code ({ cls := "jdk/internal/util/Preconditions", name := "checkFromToIndex", desc := "(IIILjava/util/function/BiFunction;)I" } : Jvm.MethodName) prog_19_method_12_code (4 : Nat) (Option.some Jvm.ClassFile.FieldType.int)) ∈ wG := wg_in (wt_1 (List.mem_of_getElem? (i := 224) rfl)) rfl
theorem tw_225 : (Jvm.Cond.methodLink "java/lang/StringUTF16" (244 : Nat) ({ cls := "java/lang/StringUTF16", name := "indexOfCharUnsafe", desc := "([BIII)I" } : Jvm.MethodName)) ∈ wG := wg_in (wt_1 (List.mem_of_getElem? (i := 225) rfl)) rfl
theorem tw_226 : (Jvm.Cond.static ({ cls := "java/lang/StringUTF16", name := "indexOfCharUnsafe", desc := "([BIII)I" } : Jvm.MethodName)) ∈ wG := wg_in (wt_1 (List.mem_of_getElem? (i := 226) rfl)) rfl
theorem tw_227 : (Jvm.Cond.code ({ cls := "java/lang/StringUTF16", name := "indexOfCharUnsafe", desc := "([BIII)I" } : Jvm.MethodName) prog_17_method_48_code (5 : Nat) (Option.some Jvm.ClassFile.FieldType.int)) ∈ wG := wg_in (wt_1 (List.mem_of_getElem? (i := 227) rfl)) rfl
theorem tw_228 : (Jvm.Cond.methodLink "java/lang/StringUTF16" (71 : Nat) ({ cls := "java/lang/StringUTF16", name := "getChar", desc := "([BI)C" } : Jvm.MethodName)) ∈ wG := wg_in (wt_1 (List.mem_of_getElem? (i := 228) rfl)) rfl
theorem tw_229 : (Jvm.Cond.static ({ cls := "java/lang/StringUTF16", name := "getChar", desc := "([BI)C" } : Jvm.MethodName)) ∈ wG := wg_in (wt_1 (List.mem_of_getElem? (i := 229) rfl)) rfl
theorem tw_230 : (Jvm.Cond.code ({ cls := "java/lang/StringUTF16", name := "getChar", desc := "([BI)C" } : Jvm.MethodName) prog_17_method_5_code (2 : Nat) (Option.some Jvm.ClassFile.FieldType.char)) ∈ wG := wg_in (wt_1 (List.mem_of_getElem? (i := 230) rfl)) rfl
theorem tw_231 : (Jvm.Cond.fieldLink "java/lang/StringUTF16" (44 : Nat) "java/lang/StringUTF16" "$assertionsDisabled" "Z") ∈ wG := wg_in (wt_1 (List.mem_of_getElem? (i := 231) rfl)) rfl
theorem tw_233 : (Jvm.Cond.fieldLink "java/lang/StringUTF16" (59 : Nat) "java/lang/StringUTF16" "HI_BYTE_SHIFT" "I") ∈ wG := wg_in (wt_1 (List.mem_of_getElem? (i := 233) rfl)) rfl
theorem tw_235 : (Jvm.Cond.fieldLink "java/lang/StringUTF16" (63 : Nat) "java/lang/StringUTF16" "LO_BYTE_SHIFT" "I") ∈ wG := wg_in (wt_1 (List.mem_of_getElem? (i := 235) rfl)) rfl
theorem tw_237 : (Jvm.Cond.methodLink "java/lang/StringUTF16" (232 : Nat) ({ cls := "java/lang/StringUTF16", name := "indexOfSupplementary", desc := "([BIII)I" } : Jvm.MethodName)) ∈ wG := wg_in (wt_1 (List.mem_of_getElem? (i := 237) rfl)) rfl
theorem tw_238 : (Jvm.Cond.static ({ cls := "java/lang/StringUTF16", name := "indexOfSupplementary", desc := "([BIII)I" } : Jvm.MethodName)) ∈ wG := wg_in (wt_1 (List.mem_of_getElem? (i := 238) rfl)) rfl
theorem tw_239 : (Jvm.Cond.code ({ cls := "java/lang/StringUTF16", name := "indexOfSupplementary", desc := "([BIII)I" } : Jvm.MethodName) prog_17_method_49_code (7 : Nat) (Option.some Jvm.ClassFile.FieldType.int)) ∈ wG := wg_in (wt_1 (List.mem_of_getElem? (i := 239) rfl)) rfl
theorem tw_240 : (Jvm.Cond.methodLink "java/lang/StringUTF16" (164 : Nat) ({ cls := "java/lang/Character", name := "isValidCodePoint", desc := "(I)Z" } : Jvm.MethodName)) ∈ wG := wg_in (wt_2 (List.mem_of_getElem? (i := 0) rfl)) rfl
theorem tw_241 : (Jvm.Cond.static ({ cls := "java/lang/Character", name := "isValidCodePoint", desc := "(I)Z" } : Jvm.MethodName)) ∈ wG := wg_in (wt_2 (List.mem_of_getElem? (i := 1) rfl)) rfl
theorem tw_242 : (Jvm.Cond.code ({ cls := "java/lang/Character", name := "isValidCodePoint", desc := "(I)Z" } : Jvm.MethodName) prog_9_method_11_code (2 : Nat) (Option.some Jvm.ClassFile.FieldType.boolean)) ∈ wG := wg_in (wt_2 (List.mem_of_getElem? (i := 2) rfl)) rfl
theorem tw_243 : (Jvm.Cond.methodLink "java/lang/StringUTF16" (157 : Nat) ({ cls := "java/lang/Character", name := "highSurrogate", desc := "(I)C" } : Jvm.MethodName)) ∈ wG := wg_in (wt_2 (List.mem_of_getElem? (i := 3) rfl)) rfl
theorem tw_244 : (Jvm.Cond.static ({ cls := "java/lang/Character", name := "highSurrogate", desc := "(I)C" } : Jvm.MethodName)) ∈ wG := wg_in (wt_2 (List.mem_of_getElem? (i := 4) rfl)) rfl
theorem tw_245 : (Jvm.Cond.code ({ cls := "java/lang/Character", name := "highSurrogate", desc := "(I)C" } : Jvm.MethodName) prog_9_method_28_code (1 : Nat) (Option.some Jvm.ClassFile.FieldType.char)) ∈ wG := wg_in (wt_2 (List.mem_of_getElem? (i := 5) rfl)) rfl
theorem tw_246 : (Jvm.Cond.constant "java/lang/Character" (110 : Nat) (55232 : Int32)) ∈ wG := wg_in (wt_2 (List.mem_of_getElem? (i := 6) rfl)) rfl
theorem tw_247 : (Jvm.Cond.methodLink "java/lang/StringUTF16" (161 : Nat) ({ cls := "java/lang/Character", name := "lowSurrogate", desc := "(I)C" } : Jvm.MethodName)) ∈ wG := wg_in (wt_2 (List.mem_of_getElem? (i := 7) rfl)) rfl
theorem tw_248 : (Jvm.Cond.static ({ cls := "java/lang/Character", name := "lowSurrogate", desc := "(I)C" } : Jvm.MethodName)) ∈ wG := wg_in (wt_2 (List.mem_of_getElem? (i := 8) rfl)) rfl
theorem tw_249 : (Jvm.Cond.code ({ cls := "java/lang/Character", name := "lowSurrogate", desc := "(I)C" } : Jvm.MethodName) prog_9_method_29_code (1 : Nat) (Option.some Jvm.ClassFile.FieldType.char)) ∈ wG := wg_in (wt_2 (List.mem_of_getElem? (i := 9) rfl)) rfl
theorem tw_250 : (Jvm.Cond.constant "java/lang/Character" (76 : Nat) (56320 : Int32)) ∈ wG := wg_in (wt_2 (List.mem_of_getElem? (i := 10) rfl)) rfl
theorem tw_251 : (Jvm.Cond.arrayClass Jvm.ClassFile.FieldType.byte) ∈ wG := wg_in (wt_2 (List.mem_of_getElem? (i := 11) rfl)) rfl
theorem tw_252 : (Jvm.Cond.methodLink "DeckFrontLaw" (37 : Nat) ({ cls := "DeckFront", name := "clear", desc := "()V" } : Jvm.MethodName)) ∈ wG := wg_in (wt_2 (List.mem_of_getElem? (i := 12) rfl)) rfl
theorem tw_253 : (Jvm.Cond.instanceMethod ({ cls := "DeckFront", name := "clear", desc := "()V" } : Jvm.MethodName)) ∈ wG := wg_in (wt_2 (List.mem_of_getElem? (i := 13) rfl)) rfl
theorem tw_254 : (Jvm.Cond.selects "DeckFront" ({ cls := "DeckFront", name := "clear", desc := "()V" } : Jvm.MethodName) ({ cls := "DeckFront", name := "clear", desc := "()V" } : Jvm.MethodName)) ∈ wG := wg_in (wt_2 (List.mem_of_getElem? (i := 14) rfl)) rfl
theorem tw_255 : (Jvm.Cond.code ({ cls := "DeckFront", name := "clear", desc := "()V" } : Jvm.MethodName) prog_1_method_4_code (1 : Nat) (Option.none : Option Jvm.ClassFile.FieldType)) ∈ wG := wg_in (wt_2 (List.mem_of_getElem? (i := 15) rfl)) rfl
theorem tw_256 : (Jvm.Cond.methodLink "DeckFrontLaw" (41 : Nat) ({ cls := "DeckFront", name := "statements", desc := "()I" } : Jvm.MethodName)) ∈ wG := wg_in (wt_2 (List.mem_of_getElem? (i := 16) rfl)) rfl
theorem tw_257 : (Jvm.Cond.instanceMethod ({ cls := "DeckFront", name := "statements", desc := "()I" } : Jvm.MethodName)) ∈ wG := wg_in (wt_2 (List.mem_of_getElem? (i := 17) rfl)) rfl
theorem tw_258 : (Jvm.Cond.selects "DeckFront" ({ cls := "DeckFront", name := "statements", desc := "()I" } : Jvm.MethodName) ({ cls := "DeckFront", name := "statements", desc := "()I" } : Jvm.MethodName)) ∈ wG := wg_in (wt_2 (List.mem_of_getElem? (i := 18) rfl)) rfl
theorem tw_259 : (Jvm.Cond.code ({ cls := "DeckFront", name := "statements", desc := "()I" } : Jvm.MethodName) prog_1_method_5_code (1 : Nat) (Option.some Jvm.ClassFile.FieldType.int)) ∈ wG := wg_in (wt_2 (List.mem_of_getElem? (i := 19) rfl)) rfl
theorem tw_260 : (Jvm.Cond.methodLink "DeckFrontLaw" (45 : Nat) ({ cls := "DeckFront", name := "label", desc := "(I)I" } : Jvm.MethodName)) ∈ wG := wg_in (wt_2 (List.mem_of_getElem? (i := 20) rfl)) rfl
theorem tw_261 : (Jvm.Cond.instanceMethod ({ cls := "DeckFront", name := "label", desc := "(I)I" } : Jvm.MethodName)) ∈ wG := wg_in (wt_2 (List.mem_of_getElem? (i := 21) rfl)) rfl
theorem tw_262 : (Jvm.Cond.selects "DeckFront" ({ cls := "DeckFront", name := "label", desc := "(I)I" } : Jvm.MethodName) ({ cls := "DeckFront", name := "label", desc := "(I)I" } : Jvm.MethodName)) ∈ wG := wg_in (wt_2 (List.mem_of_getElem? (i := 22) rfl)) rfl
theorem tw_263 : (Jvm.Cond.code ({ cls := "DeckFront", name := "label", desc := "(I)I" } : Jvm.MethodName) prog_1_method_6_code (3 : Nat) (Option.some Jvm.ClassFile.FieldType.int)) ∈ wG := wg_in (wt_2 (List.mem_of_getElem? (i := 23) rfl)) rfl
theorem tw_264 : (Jvm.Cond.methodLink "DeckFront" (54 : Nat) ({ cls := "DeckFront$Deck", name := "find", desc := "(I)LDeckFront$Statement;" } : Jvm.MethodName)) ∈ wG := wg_in (wt_2 (List.mem_of_getElem? (i := 24) rfl)) rfl
theorem tw_265 : (Jvm.Cond.instanceMethod ({ cls := "DeckFront$Deck", name := "find", desc := "(I)LDeckFront$Statement;" } : Jvm.MethodName)) ∈ wG := wg_in (wt_2 (List.mem_of_getElem? (i := 25) rfl)) rfl
theorem tw_266 : (Jvm.Cond.selects "DeckFront$Deck" ({ cls := "DeckFront$Deck", name := "find", desc := "(I)LDeckFront$Statement;" } : Jvm.MethodName) ({ cls := "DeckFront$Deck", name := "find", desc := "(I)LDeckFront$Statement;" } : Jvm.MethodName)) ∈ wG := wg_in (wt_2 (List.mem_of_getElem? (i := 26) rfl)) rfl
theorem tw_267 : (Jvm.Cond.code ({ cls := "DeckFront$Deck", name := "find", desc := "(I)LDeckFront$Statement;" } : Jvm.MethodName) prog_3_method_2_code (2 : Nat) (Option.some (Jvm.ClassFile.FieldType.object "DeckFront$Statement"))) ∈ wG := wg_in (wt_2 (List.mem_of_getElem? (i := 27) rfl)) rfl
theorem tw_268 : (Jvm.Cond.methodLink "DeckFrontLaw" (50 : Nat) ({ cls := "DeckFront", name := "what", desc := "(I)I" } : Jvm.MethodName)) ∈ wG := wg_in (wt_2 (List.mem_of_getElem? (i := 28) rfl)) rfl
theorem tw_269 : (Jvm.Cond.instanceMethod ({ cls := "DeckFront", name := "what", desc := "(I)I" } : Jvm.MethodName)) ∈ wG := wg_in (wt_2 (List.mem_of_getElem? (i := 29) rfl)) rfl
theorem tw_270 : (Jvm.Cond.selects "DeckFront" ({ cls := "DeckFront", name := "what", desc := "(I)I" } : Jvm.MethodName) ({ cls := "DeckFront", name := "what", desc := "(I)I" } : Jvm.MethodName)) ∈ wG := wg_in (wt_2 (List.mem_of_getElem? (i := 30) rfl)) rfl
theorem tw_271 : (Jvm.Cond.code ({ cls := "DeckFront", name := "what", desc := "(I)I" } : Jvm.MethodName) prog_1_method_7_code (3 : Nat) (Option.some Jvm.ClassFile.FieldType.int)) ∈ wG := wg_in (wt_2 (List.mem_of_getElem? (i := 31) rfl)) rfl
theorem tw_272 : (Jvm.Cond.methodLink "DeckFrontLaw" (54 : Nat) ({ cls := "DeckFront", name := "shown", desc := "(II)I" } : Jvm.MethodName)) ∈ wG := wg_in (wt_2 (List.mem_of_getElem? (i := 32) rfl)) rfl
theorem tw_273 : (Jvm.Cond.instanceMethod ({ cls := "DeckFront", name := "shown", desc := "(II)I" } : Jvm.MethodName)) ∈ wG := wg_in (wt_2 (List.mem_of_getElem? (i := 33) rfl)) rfl
theorem tw_274 : (Jvm.Cond.selects "DeckFront" ({ cls := "DeckFront", name := "shown", desc := "(II)I" } : Jvm.MethodName) ({ cls := "DeckFront", name := "shown", desc := "(II)I" } : Jvm.MethodName)) ∈ wG := wg_in (wt_2 (List.mem_of_getElem? (i := 34) rfl)) rfl
theorem tw_275 : (Jvm.Cond.code ({ cls := "DeckFront", name := "shown", desc := "(II)I" } : Jvm.MethodName) prog_1_method_8_code (4 : Nat) (Option.some Jvm.ClassFile.FieldType.int)) ∈ wG := wg_in (wt_2 (List.mem_of_getElem? (i := 35) rfl)) rfl
theorem tw_276 : (Jvm.Cond.methodLink "DeckFront" (72 : Nat) ({ cls := "DeckFront$Statement", name := "signShown", desc := "(I)I" } : Jvm.MethodName)) ∈ wG := wg_in (wt_2 (List.mem_of_getElem? (i := 36) rfl)) rfl
theorem tw_277 : (Jvm.Cond.sameMethod "DeckFront$Statement" "DeckFront$Tape" "signShown" "(I)I") ∈ wG := wg_in (wt_2 (List.mem_of_getElem? (i := 37) rfl)) rfl
theorem tw_279 : (Jvm.Cond.selects "DeckFront$Statement" ({ cls := "DeckFront$Statement", name := "signShown", desc := "(I)I" } : Jvm.MethodName) ({ cls := "DeckFront$Tape", name := "signShown", desc := "(I)I" } : Jvm.MethodName)) ∈ wG := wg_in (wt_2 (List.mem_of_getElem? (i := 39) rfl)) rfl
theorem tw_280 : (Jvm.Cond.instanceMethod ({ cls := "DeckFront$Tape", name := "signShown", desc := "(I)I" } : Jvm.MethodName)) ∈ wG := wg_in (wt_2 (List.mem_of_getElem? (i := 40) rfl)) rfl
theorem tw_281 : (Jvm.Cond.code ({ cls := "DeckFront$Tape", name := "signShown", desc := "(I)I" } : Jvm.MethodName) prog_6_method_17_code (4 : Nat) (Option.some Jvm.ClassFile.FieldType.int)) ∈ wG := wg_in (wt_2 (List.mem_of_getElem? (i := 41) rfl)) rfl
theorem tw_282 : (Jvm.Cond.methodLink "DeckFrontLaw" (59 : Nat) ({ cls := "DeckFront", name := "kind", desc := "(J)I" } : Jvm.MethodName)) ∈ wG := wg_in (wt_2 (List.mem_of_getElem? (i := 42) rfl)) rfl
theorem tw_283 : (Jvm.Cond.instanceMethod ({ cls := "DeckFront", name := "kind", desc := "(J)I" } : Jvm.MethodName)) ∈ wG := wg_in (wt_2 (List.mem_of_getElem? (i := 43) rfl)) rfl
theorem tw_284 : (Jvm.Cond.selects "DeckFront" ({ cls := "DeckFront", name := "kind", desc := "(J)I" } : Jvm.MethodName) ({ cls := "DeckFront", name := "kind", desc := "(J)I" } : Jvm.MethodName)) ∈ wG := wg_in (wt_2 (List.mem_of_getElem? (i := 44) rfl)) rfl
theorem tw_285 : (Jvm.Cond.code ({ cls := "DeckFront", name := "kind", desc := "(J)I" } : Jvm.MethodName) prog_1_method_9_code (5 : Nat) (Option.some Jvm.ClassFile.FieldType.int)) ∈ wG := wg_in (wt_2 (List.mem_of_getElem? (i := 45) rfl)) rfl
theorem tw_286 : (Jvm.Cond.methodLink "DeckFront" (76 : Nat) ({ cls := "DeckFront", name := "nameOf", desc := "(J)J" } : Jvm.MethodName)) ∈ wG := wg_in (wt_2 (List.mem_of_getElem? (i := 46) rfl)) rfl
theorem tw_287 : (Jvm.Cond.static ({ cls := "DeckFront", name := "nameOf", desc := "(J)J" } : Jvm.MethodName)) ∈ wG := wg_in (wt_2 (List.mem_of_getElem? (i := 47) rfl)) rfl
theorem tw_288 : (Jvm.Cond.code ({ cls := "DeckFront", name := "nameOf", desc := "(J)J" } : Jvm.MethodName) prog_1_method_15_code (8 : Nat) (Option.some Jvm.ClassFile.FieldType.long)) ∈ wG := wg_in (wt_2 (List.mem_of_getElem? (i := 48) rfl)) rfl
theorem tw_289 : (Jvm.Cond.methodLink "DeckFront" (97 : Nat) ({ cls := "DeckFront", name := "isLetter", desc := "(I)Z" } : Jvm.MethodName)) ∈ wG := wg_in (wt_2 (List.mem_of_getElem? (i := 49) rfl)) rfl
theorem tw_290 : (Jvm.Cond.methodLink "DeckFront" (101 : Nat) ({ cls := "DeckFront", name := "isDigit", desc := "(I)Z" } : Jvm.MethodName)) ∈ wG := wg_in (wt_2 (List.mem_of_getElem? (i := 50) rfl)) rfl
theorem tw_291 : (Jvm.Cond.methodLink "DeckFront" (80 : Nat) ({ cls := "DeckFront$Deck", name := "kindOf", desc := "(J)I" } : Jvm.MethodName)) ∈ wG := wg_in (wt_2 (List.mem_of_getElem? (i := 51) rfl)) rfl
theorem tw_292 : (Jvm.Cond.instanceMethod ({ cls := "DeckFront$Deck", name := "kindOf", desc := "(J)I" } : Jvm.MethodName)) ∈ wG := wg_in (wt_2 (List.mem_of_getElem? (i := 52) rfl)) rfl
theorem tw_293 : (Jvm.Cond.selects "DeckFront$Deck" ({ cls := "DeckFront$Deck", name := "kindOf", desc := "(J)I" } : Jvm.MethodName) ({ cls := "DeckFront$Deck", name := "kindOf", desc := "(J)I" } : Jvm.MethodName)) ∈ wG := wg_in (wt_2 (List.mem_of_getElem? (i := 53) rfl)) rfl
theorem tw_294 : (Jvm.Cond.code ({ cls := "DeckFront$Deck", name := "kindOf", desc := "(J)I" } : Jvm.MethodName) prog_3_method_6_code (6 : Nat) (Option.some Jvm.ClassFile.FieldType.int)) ∈ wG := wg_in (wt_2 (List.mem_of_getElem? (i := 54) rfl)) rfl
theorem tw_295 : (Jvm.Cond.methodLink "DeckFront$Deck" (59 : Nat) ({ cls := "DeckFront$Statement", name := "kindHere", desc := "(J)I" } : Jvm.MethodName)) ∈ wG := wg_in (wt_2 (List.mem_of_getElem? (i := 55) rfl)) rfl
theorem tw_296 : (Jvm.Cond.sameMethod "DeckFront$Statement" "DeckFront$Tape" "kindHere" "(J)I") ∈ wG := wg_in (wt_2 (List.mem_of_getElem? (i := 56) rfl)) rfl
theorem tw_298 : (Jvm.Cond.selects "DeckFront$Statement" ({ cls := "DeckFront$Statement", name := "kindHere", desc := "(J)I" } : Jvm.MethodName) ({ cls := "DeckFront$Tape", name := "kindHere", desc := "(J)I" } : Jvm.MethodName)) ∈ wG := wg_in (wt_2 (List.mem_of_getElem? (i := 58) rfl)) rfl
theorem tw_299 : (Jvm.Cond.instanceMethod ({ cls := "DeckFront$Tape", name := "kindHere", desc := "(J)I" } : Jvm.MethodName)) ∈ wG := wg_in (wt_2 (List.mem_of_getElem? (i := 59) rfl)) rfl
theorem tw_300 : (Jvm.Cond.code ({ cls := "DeckFront$Tape", name := "kindHere", desc := "(J)I" } : Jvm.MethodName) prog_6_method_18_code (6 : Nat) (Option.some Jvm.ClassFile.FieldType.int)) ∈ wG := wg_in (wt_2 (List.mem_of_getElem? (i := 60) rfl)) rfl
theorem tw_301 : (Jvm.Cond.methodLink "DeckFront$Tape" (101 : Nat) ({ cls := "DeckFront$Tape", name := "nameAt", desc := "(I)J" } : Jvm.MethodName)) ∈ wG := wg_in (wt_2 (List.mem_of_getElem? (i := 61) rfl)) rfl
theorem tw_303 : (Jvm.Cond.instanceMethod ({ cls := "DeckFront$Tape", name := "nameAt", desc := "(I)J" } : Jvm.MethodName)) ∈ wG := wg_in (wt_2 (List.mem_of_getElem? (i := 63) rfl)) rfl
theorem tw_304 : (Jvm.Cond.code ({ cls := "DeckFront$Tape", name := "nameAt", desc := "(I)J" } : Jvm.MethodName) prog_6_method_19_code (5 : Nat) (Option.some Jvm.ClassFile.FieldType.long)) ∈ wG := wg_in (wt_2 (List.mem_of_getElem? (i := 64) rfl)) rfl
theorem tw_307 : (Jvm.Cond.methodLink "DeckFrontLaw" (64 : Nat) ({ cls := "DeckFront", name := "type", desc := "(J)I" } : Jvm.MethodName)) ∈ wG := wg_in (wt_2 (List.mem_of_getElem? (i := 67) rfl)) rfl
theorem tw_308 : (Jvm.Cond.instanceMethod ({ cls := "DeckFront", name := "type", desc := "(J)I" } : Jvm.MethodName)) ∈ wG := wg_in (wt_2 (List.mem_of_getElem? (i := 68) rfl)) rfl
theorem tw_309 : (Jvm.Cond.selects "DeckFront" ({ cls := "DeckFront", name := "type", desc := "(J)I" } : Jvm.MethodName) ({ cls := "DeckFront", name := "type", desc := "(J)I" } : Jvm.MethodName)) ∈ wG := wg_in (wt_2 (List.mem_of_getElem? (i := 69) rfl)) rfl
theorem tw_310 : (Jvm.Cond.code ({ cls := "DeckFront", name := "type", desc := "(J)I" } : Jvm.MethodName) prog_1_method_10_code (5 : Nat) (Option.some Jvm.ClassFile.FieldType.int)) ∈ wG := wg_in (wt_2 (List.mem_of_getElem? (i := 70) rfl)) rfl
theorem tw_311 : (Jvm.Cond.methodLink "DeckFront" (84 : Nat) ({ cls := "DeckFront$Deck", name := "typeOf", desc := "(J)I" } : Jvm.MethodName)) ∈ wG := wg_in (wt_2 (List.mem_of_getElem? (i := 71) rfl)) rfl
theorem tw_312 : (Jvm.Cond.instanceMethod ({ cls := "DeckFront$Deck", name := "typeOf", desc := "(J)I" } : Jvm.MethodName)) ∈ wG := wg_in (wt_2 (List.mem_of_getElem? (i := 72) rfl)) rfl
theorem tw_313 : (Jvm.Cond.selects "DeckFront$Deck" ({ cls := "DeckFront$Deck", name := "typeOf", desc := "(J)I" } : Jvm.MethodName) ({ cls := "DeckFront$Deck", name := "typeOf", desc := "(J)I" } : Jvm.MethodName)) ∈ wG := wg_in (wt_2 (List.mem_of_getElem? (i := 73) rfl)) rfl
theorem tw_314 : (Jvm.Cond.code ({ cls := "DeckFront$Deck", name := "typeOf", desc := "(J)I" } : Jvm.MethodName) prog_3_method_7_code (4 : Nat) (Option.some Jvm.ClassFile.FieldType.int)) ∈ wG := wg_in (wt_2 (List.mem_of_getElem? (i := 74) rfl)) rfl
theorem tw_315 : (Jvm.Cond.methodLink "DeckFront$Deck" (66 : Nat) ({ cls := "DeckFront$Statement", name := "typeTold", desc := "()I" } : Jvm.MethodName)) ∈ wG := wg_in (wt_2 (List.mem_of_getElem? (i := 75) rfl)) rfl
theorem tw_316 : (Jvm.Cond.instanceMethod ({ cls := "DeckFront$Statement", name := "typeTold", desc := "()I" } : Jvm.MethodName)) ∈ wG := wg_in (wt_2 (List.mem_of_getElem? (i := 76) rfl)) rfl
theorem tw_317 : (Jvm.Cond.selects "DeckFront$Statement" ({ cls := "DeckFront$Statement", name := "typeTold", desc := "()I" } : Jvm.MethodName) ({ cls := "DeckFront$Statement", name := "typeTold", desc := "()I" } : Jvm.MethodName)) ∈ wG := wg_in (wt_2 (List.mem_of_getElem? (i := 77) rfl)) rfl
theorem tw_318 : (Jvm.Cond.code ({ cls := "DeckFront$Statement", name := "typeTold", desc := "()I" } : Jvm.MethodName) prog_4_method_17_code (1 : Nat) (Option.some Jvm.ClassFile.FieldType.int)) ∈ wG := wg_in (wt_2 (List.mem_of_getElem? (i := 78) rfl)) rfl
theorem tw_320 : (Jvm.Cond.static ({ cls := "DeckFront", name := "typeByLetter", desc := "(J)I" } : Jvm.MethodName)) ∈ wG := wg_in (wt_2 (List.mem_of_getElem? (i := 80) rfl)) rfl
theorem tw_321 : (Jvm.Cond.code ({ cls := "DeckFront", name := "typeByLetter", desc := "(J)I" } : Jvm.MethodName) prog_1_method_16_code (5 : Nat) (Option.some Jvm.ClassFile.FieldType.int)) ∈ wG := wg_in (wt_2 (List.mem_of_getElem? (i := 81) rfl)) rfl
theorem tw_322 : (Jvm.Cond.constantLong "DeckFront" (104 : Nat) (255 : Int64)) ∈ wG := wg_in (wt_2 (List.mem_of_getElem? (i := 82) rfl)) rfl
theorem tw_323 : (Jvm.Cond.constantLong "DeckFront" (106 : Nat) (73 : Int64)) ∈ wG := wg_in (wt_2 (List.mem_of_getElem? (i := 83) rfl)) rfl
theorem tw_324 : (Jvm.Cond.constantLong "DeckFront" (108 : Nat) (78 : Int64)) ∈ wG := wg_in (wt_2 (List.mem_of_getElem? (i := 84) rfl)) rfl
theorem tw_325 : (Jvm.Cond.methodLink "DeckFrontLaw" (68 : Nat) ({ cls := "DeckFront", name := "fault", desc := "()I" } : Jvm.MethodName)) ∈ wG := wg_in (wt_2 (List.mem_of_getElem? (i := 85) rfl)) rfl
theorem tw_326 : (Jvm.Cond.instanceMethod ({ cls := "DeckFront", name := "fault", desc := "()I" } : Jvm.MethodName)) ∈ wG := wg_in (wt_2 (List.mem_of_getElem? (i := 86) rfl)) rfl
theorem tw_327 : (Jvm.Cond.selects "DeckFront" ({ cls := "DeckFront", name := "fault", desc := "()I" } : Jvm.MethodName) ({ cls := "DeckFront", name := "fault", desc := "()I" } : Jvm.MethodName)) ∈ wG := wg_in (wt_2 (List.mem_of_getElem? (i := 87) rfl)) rfl
theorem tw_328 : (Jvm.Cond.code ({ cls := "DeckFront", name := "fault", desc := "()I" } : Jvm.MethodName) prog_1_method_11_code (1 : Nat) (Option.some Jvm.ClassFile.FieldType.int)) ∈ wG := wg_in (wt_2 (List.mem_of_getElem? (i := 88) rfl)) rfl
theorem tw_329 : (Jvm.Cond.methodLink "DeckFront" (87 : Nat) ({ cls := "DeckFront$Structure", name := "look", desc := "(LDeckFront$Deck;)V" } : Jvm.MethodName)) ∈ wG := wg_in (wt_2 (List.mem_of_getElem? (i := 89) rfl)) rfl
theorem tw_330 : (Jvm.Cond.instanceMethod ({ cls := "DeckFront$Structure", name := "look", desc := "(LDeckFront$Deck;)V" } : Jvm.MethodName)) ∈ wG := wg_in (wt_2 (List.mem_of_getElem? (i := 90) rfl)) rfl
theorem tw_331 : (Jvm.Cond.selects "DeckFront$Structure" ({ cls := "DeckFront$Structure", name := "look", desc := "(LDeckFront$Deck;)V" } : Jvm.MethodName) ({ cls := "DeckFront$Structure", name := "look", desc := "(LDeckFront$Deck;)V" } : Jvm.MethodName)) ∈ wG := wg_in (wt_2 (List.mem_of_getElem? (i := 91) rfl)) rfl
theorem tw_332 : (Jvm.Cond.code ({ cls := "DeckFront$Structure", name := "look", desc := "(LDeckFront$Deck;)V" } : Jvm.MethodName) prog_5_method_2_code (3 : Nat) (Option.none : Option Jvm.ClassFile.FieldType)) ∈ wG := wg_in (wt_2 (List.mem_of_getElem? (i := 92) rfl)) rfl
theorem tw_333 : (Jvm.Cond.methodLink "DeckFront$Structure" (30 : Nat) ({ cls := "DeckFront$Structure", name := "faultOf", desc := "(LDeckFront$Deck;I)I" } : Jvm.MethodName)) ∈ wG := wg_in (wt_2 (List.mem_of_getElem? (i := 93) rfl)) rfl
theorem tw_335 : (Jvm.Cond.instanceMethod ({ cls := "DeckFront$Structure", name := "faultOf", desc := "(LDeckFront$Deck;I)I" } : Jvm.MethodName)) ∈ wG := wg_in (wt_2 (List.mem_of_getElem? (i := 95) rfl)) rfl
theorem tw_336 : (Jvm.Cond.code ({ cls := "DeckFront$Structure", name := "faultOf", desc := "(LDeckFront$Deck;I)I" } : Jvm.MethodName) prog_5_method_3_code (5 : Nat) (Option.some Jvm.ClassFile.FieldType.int)) ∈ wG := wg_in (wt_2 (List.mem_of_getElem? (i := 96) rfl)) rfl
theorem tw_337 : (Jvm.Cond.methodLink "DeckFront$Structure" (46 : Nat) ({ cls := "DeckFront$Deck", name := "hasNumber", desc := "(III)Z" } : Jvm.MethodName)) ∈ wG := wg_in (wt_2 (List.mem_of_getElem? (i := 97) rfl)) rfl
theorem tw_338 : (Jvm.Cond.instanceMethod ({ cls := "DeckFront$Deck", name := "hasNumber", desc := "(III)Z" } : Jvm.MethodName)) ∈ wG := wg_in (wt_2 (List.mem_of_getElem? (i := 98) rfl)) rfl
theorem tw_339 : (Jvm.Cond.selects "DeckFront$Deck" ({ cls := "DeckFront$Deck", name := "hasNumber", desc := "(III)Z" } : Jvm.MethodName) ({ cls := "DeckFront$Deck", name := "hasNumber", desc := "(III)Z" } : Jvm.MethodName)) ∈ wG := wg_in (wt_2 (List.mem_of_getElem? (i := 99) rfl)) rfl
theorem tw_340 : (Jvm.Cond.code ({ cls := "DeckFront$Deck", name := "hasNumber", desc := "(III)Z" } : Jvm.MethodName) prog_3_method_8_code (5 : Nat) (Option.some Jvm.ClassFile.FieldType.boolean)) ∈ wG := wg_in (wt_2 (List.mem_of_getElem? (i := 100) rfl)) rfl
theorem tw_341 : (Jvm.Cond.methodLink "DeckFront$Structure" (50 : Nat) ({ cls := "DeckFront$Statement", name := "declares", desc := "()Z" } : Jvm.MethodName)) ∈ wG := wg_in (wt_2 (List.mem_of_getElem? (i := 101) rfl)) rfl
theorem tw_342 : (Jvm.Cond.instanceMethod ({ cls := "DeckFront$Statement", name := "declares", desc := "()Z" } : Jvm.MethodName)) ∈ wG := wg_in (wt_2 (List.mem_of_getElem? (i := 102) rfl)) rfl
theorem tw_343 : (Jvm.Cond.selects "DeckFront$Statement" ({ cls := "DeckFront$Statement", name := "declares", desc := "()Z" } : Jvm.MethodName) ({ cls := "DeckFront$Statement", name := "declares", desc := "()Z" } : Jvm.MethodName)) ∈ wG := wg_in (wt_2 (List.mem_of_getElem? (i := 103) rfl)) rfl
theorem tw_344 : (Jvm.Cond.code ({ cls := "DeckFront$Statement", name := "declares", desc := "()Z" } : Jvm.MethodName) prog_4_method_19_code (1 : Nat) (Option.some Jvm.ClassFile.FieldType.boolean)) ∈ wG := wg_in (wt_2 (List.mem_of_getElem? (i := 104) rfl)) rfl
theorem tw_345 : (Jvm.Cond.methodLink "DeckFront$Structure" (54 : Nat) ({ cls := "DeckFront$Statement", name := "isBranch", desc := "()Z" } : Jvm.MethodName)) ∈ wG := wg_in (wt_2 (List.mem_of_getElem? (i := 105) rfl)) rfl
theorem tw_346 : (Jvm.Cond.instanceMethod ({ cls := "DeckFront$Statement", name := "isBranch", desc := "()Z" } : Jvm.MethodName)) ∈ wG := wg_in (wt_2 (List.mem_of_getElem? (i := 106) rfl)) rfl
theorem tw_347 : (Jvm.Cond.selects "DeckFront$Statement" ({ cls := "DeckFront$Statement", name := "isBranch", desc := "()Z" } : Jvm.MethodName) ({ cls := "DeckFront$Statement", name := "isBranch", desc := "()Z" } : Jvm.MethodName)) ∈ wG := wg_in (wt_2 (List.mem_of_getElem? (i := 107) rfl)) rfl
theorem tw_348 : (Jvm.Cond.code ({ cls := "DeckFront$Statement", name := "isBranch", desc := "()Z" } : Jvm.MethodName) prog_4_method_20_code (1 : Nat) (Option.some Jvm.ClassFile.FieldType.boolean)) ∈ wG := wg_in (wt_2 (List.mem_of_getElem? (i := 108) rfl)) rfl
theorem tw_349 : (Jvm.Cond.methodLink "DeckFront$Structure" (57 : Nat) ({ cls := "DeckFront$Structure", name := "branchFits", desc := "(LDeckFront$Statement;)Z" } : Jvm.MethodName)) ∈ wG := wg_in (wt_2 (List.mem_of_getElem? (i := 109) rfl)) rfl
theorem tw_351 : (Jvm.Cond.instanceMethod ({ cls := "DeckFront$Structure", name := "branchFits", desc := "(LDeckFront$Statement;)Z" } : Jvm.MethodName)) ∈ wG := wg_in (wt_2 (List.mem_of_getElem? (i := 111) rfl)) rfl
theorem tw_352 : (Jvm.Cond.code ({ cls := "DeckFront$Structure", name := "branchFits", desc := "(LDeckFront$Statement;)Z" } : Jvm.MethodName) prog_5_method_6_code (2 : Nat) (Option.some Jvm.ClassFile.FieldType.boolean)) ∈ wG := wg_in (wt_2 (List.mem_of_getElem? (i := 112) rfl)) rfl
theorem tw_353 : (Jvm.Cond.methodLink "DeckFront$Structure" (65 : Nat) ({ cls := "DeckFront$Structure", name := "innermost", desc := "()I" } : Jvm.MethodName)) ∈ wG := wg_in (wt_2 (List.mem_of_getElem? (i := 113) rfl)) rfl
theorem tw_355 : (Jvm.Cond.instanceMethod ({ cls := "DeckFront$Structure", name := "innermost", desc := "()I" } : Jvm.MethodName)) ∈ wG := wg_in (wt_2 (List.mem_of_getElem? (i := 115) rfl)) rfl
theorem tw_356 : (Jvm.Cond.code ({ cls := "DeckFront$Structure", name := "innermost", desc := "()I" } : Jvm.MethodName) prog_5_method_4_code (1 : Nat) (Option.some Jvm.ClassFile.FieldType.int)) ∈ wG := wg_in (wt_2 (List.mem_of_getElem? (i := 116) rfl)) rfl
theorem tw_357 : (Jvm.Cond.methodLink "DeckFront$Structure" (61 : Nat) ({ cls := "DeckFront$Structure", name := "isOpen", desc := "(I)Z" } : Jvm.MethodName)) ∈ wG := wg_in (wt_2 (List.mem_of_getElem? (i := 117) rfl)) rfl
theorem tw_359 : (Jvm.Cond.instanceMethod ({ cls := "DeckFront$Structure", name := "isOpen", desc := "(I)Z" } : Jvm.MethodName)) ∈ wG := wg_in (wt_2 (List.mem_of_getElem? (i := 119) rfl)) rfl
theorem tw_360 : (Jvm.Cond.code ({ cls := "DeckFront$Structure", name := "isOpen", desc := "(I)Z" } : Jvm.MethodName) prog_5_method_5_code (3 : Nat) (Option.some Jvm.ClassFile.FieldType.boolean)) ∈ wG := wg_in (wt_2 (List.mem_of_getElem? (i := 120) rfl)) rfl
theorem tw_361 : (Jvm.Cond.methodLink "DeckFront$Structure" (69 : Nat) ({ cls := "DeckFront$Statement", name := "mayEndLoop", desc := "()Z" } : Jvm.MethodName)) ∈ wG := wg_in (wt_2 (List.mem_of_getElem? (i := 121) rfl)) rfl
theorem tw_362 : (Jvm.Cond.instanceMethod ({ cls := "DeckFront$Statement", name := "mayEndLoop", desc := "()Z" } : Jvm.MethodName)) ∈ wG := wg_in (wt_2 (List.mem_of_getElem? (i := 122) rfl)) rfl
theorem tw_363 : (Jvm.Cond.selects "DeckFront$Statement" ({ cls := "DeckFront$Statement", name := "mayEndLoop", desc := "()Z" } : Jvm.MethodName) ({ cls := "DeckFront$Statement", name := "mayEndLoop", desc := "()Z" } : Jvm.MethodName)) ∈ wG := wg_in (wt_2 (List.mem_of_getElem? (i := 123) rfl)) rfl
theorem tw_364 : (Jvm.Cond.code ({ cls := "DeckFront$Statement", name := "mayEndLoop", desc := "()Z" } : Jvm.MethodName) prog_4_method_21_code (1 : Nat) (Option.some Jvm.ClassFile.FieldType.boolean)) ∈ wG := wg_in (wt_2 (List.mem_of_getElem? (i := 124) rfl)) rfl
theorem tw_365 : (Jvm.Cond.methodLink "DeckFront$Statement" (197 : Nat) ({ cls := "DeckFront$Statement", name := "declares", desc := "()Z" } : Jvm.MethodName)) ∈ wG := wg_in (wt_2 (List.mem_of_getElem? (i := 125) rfl)) rfl
theorem tw_366 : (Jvm.Cond.methodLink "DeckFront$Structure" (72 : Nat) ({ cls := "DeckFront$Structure", name := "endWhatEnds", desc := "(LDeckFront$Statement;)V" } : Jvm.MethodName)) ∈ wG := wg_in (wt_2 (List.mem_of_getElem? (i := 126) rfl)) rfl
theorem tw_368 : (Jvm.Cond.instanceMethod ({ cls := "DeckFront$Structure", name := "endWhatEnds", desc := "(LDeckFront$Statement;)V" } : Jvm.MethodName)) ∈ wG := wg_in (wt_2 (List.mem_of_getElem? (i := 128) rfl)) rfl
theorem tw_369 : (Jvm.Cond.code ({ cls := "DeckFront$Structure", name := "endWhatEnds", desc := "(LDeckFront$Statement;)V" } : Jvm.MethodName) prog_5_method_7_code (2 : Nat) (Option.none : Option Jvm.ClassFile.FieldType)) ∈ wG := wg_in (wt_2 (List.mem_of_getElem? (i := 129) rfl)) rfl
theorem tw_370 : (Jvm.Cond.methodLink "DeckFront$Structure" (76 : Nat) ({ cls := "DeckFront$Structure", name := "hasItsLabels", desc := "(LDeckFront$Deck;I)Z" } : Jvm.MethodName)) ∈ wG := wg_in (wt_2 (List.mem_of_getElem? (i := 130) rfl)) rfl
theorem tw_372 : (Jvm.Cond.instanceMethod ({ cls := "DeckFront$Structure", name := "hasItsLabels", desc := "(LDeckFront$Deck;I)Z" } : Jvm.MethodName)) ∈ wG := wg_in (wt_2 (List.mem_of_getElem? (i := 132) rfl)) rfl
theorem tw_373 : (Jvm.Cond.code ({ cls := "DeckFront$Structure", name := "hasItsLabels", desc := "(LDeckFront$Deck;I)Z" } : Jvm.MethodName) prog_5_method_8_code (5 : Nat) (Option.some Jvm.ClassFile.FieldType.boolean)) ∈ wG := wg_in (wt_2 (List.mem_of_getElem? (i := 133) rfl)) rfl
theorem tw_374 : (Jvm.Cond.methodLink "DeckFront$Structure" (83 : Nat) ({ cls := "DeckFront$Statement", name := "loopNumber", desc := "()I" } : Jvm.MethodName)) ∈ wG := wg_in (wt_2 (List.mem_of_getElem? (i := 134) rfl)) rfl
theorem tw_375 : (Jvm.Cond.instanceMethod ({ cls := "DeckFront$Statement", name := "loopNumber", desc := "()I" } : Jvm.MethodName)) ∈ wG := wg_in (wt_2 (List.mem_of_getElem? (i := 135) rfl)) rfl
theorem tw_376 : (Jvm.Cond.selects "DeckFront$Statement" ({ cls := "DeckFront$Statement", name := "loopNumber", desc := "()I" } : Jvm.MethodName) ({ cls := "DeckFront$Statement", name := "loopNumber", desc := "()I" } : Jvm.MethodName)) ∈ wG := wg_in (wt_2 (List.mem_of_getElem? (i := 136) rfl)) rfl
theorem tw_377 : (Jvm.Cond.code ({ cls := "DeckFront$Statement", name := "loopNumber", desc := "()I" } : Jvm.MethodName) prog_4_method_18_code (2 : Nat) (Option.some Jvm.ClassFile.FieldType.int)) ∈ wG := wg_in (wt_2 (List.mem_of_getElem? (i := 137) rfl)) rfl
theorem tw_378 : (Jvm.Cond.methodLink "DeckFront$Statement" (194 : Nat) ({ cls := "DeckFront$Statement", name := "numberAt", desc := "(I)I" } : Jvm.MethodName)) ∈ wG := wg_in (wt_2 (List.mem_of_getElem? (i := 138) rfl)) rfl
theorem tw_379 : (Jvm.Cond.sameMethod "DeckFront$Statement" "DeckFront$Tape" "numberAt" "(I)I") ∈ wG := wg_in (wt_2 (List.mem_of_getElem? (i := 139) rfl)) rfl
theorem tw_381 : (Jvm.Cond.selects "DeckFront$Statement" ({ cls := "DeckFront$Statement", name := "numberAt", desc := "(I)I" } : Jvm.MethodName) ({ cls := "DeckFront$Tape", name := "numberAt", desc := "(I)I" } : Jvm.MethodName)) ∈ wG := wg_in (wt_2 (List.mem_of_getElem? (i := 141) rfl)) rfl
theorem tw_382 : (Jvm.Cond.instanceMethod ({ cls := "DeckFront$Tape", name := "numberAt", desc := "(I)I" } : Jvm.MethodName)) ∈ wG := wg_in (wt_2 (List.mem_of_getElem? (i := 142) rfl)) rfl
theorem tw_383 : (Jvm.Cond.code ({ cls := "DeckFront$Tape", name := "numberAt", desc := "(I)I" } : Jvm.MethodName) prog_6_method_20_code (4 : Nat) (Option.some Jvm.ClassFile.FieldType.int)) ∈ wG := wg_in (wt_2 (List.mem_of_getElem? (i := 143) rfl)) rfl
theorem tw_384 : (Jvm.Cond.methodLink "DeckFront$Structure" (92 : Nat) ({ cls := "DeckFront$Statement", name := "numberAt", desc := "(I)I" } : Jvm.MethodName)) ∈ wG := wg_in (wt_2 (List.mem_of_getElem? (i := 144) rfl)) rfl
theorem tw_385 : (Jvm.Cond.methodLink "DeckFront$Structure" (80 : Nat) ({ cls := "DeckFront$Structure", name := "openWhatOpens", desc := "(LDeckFront$Statement;)V" } : Jvm.MethodName)) ∈ wG := wg_in (wt_2 (List.mem_of_getElem? (i := 145) rfl)) rfl
theorem tw_387 : (Jvm.Cond.instanceMethod ({ cls := "DeckFront$Structure", name := "openWhatOpens", desc := "(LDeckFront$Statement;)V" } : Jvm.MethodName)) ∈ wG := wg_in (wt_2 (List.mem_of_getElem? (i := 147) rfl)) rfl
theorem tw_388 : (Jvm.Cond.code ({ cls := "DeckFront$Structure", name := "openWhatOpens", desc := "(LDeckFront$Statement;)V" } : Jvm.MethodName) prog_5_method_9_code (2 : Nat) (Option.none : Option Jvm.ClassFile.FieldType)) ∈ wG := wg_in (wt_2 (List.mem_of_getElem? (i := 148) rfl)) rfl
theorem tw_389 : (Jvm.Cond.methodLink "DeckFrontLaw" (72 : Nat) ({ cls := "DeckFront", name := "faultAt", desc := "()I" } : Jvm.MethodName)) ∈ wG := wg_in (wt_2 (List.mem_of_getElem? (i := 149) rfl)) rfl
theorem tw_390 : (Jvm.Cond.instanceMethod ({ cls := "DeckFront", name := "faultAt", desc := "()I" } : Jvm.MethodName)) ∈ wG := wg_in (wt_2 (List.mem_of_getElem? (i := 150) rfl)) rfl
theorem tw_391 : (Jvm.Cond.selects "DeckFront" ({ cls := "DeckFront", name := "faultAt", desc := "()I" } : Jvm.MethodName) ({ cls := "DeckFront", name := "faultAt", desc := "()I" } : Jvm.MethodName)) ∈ wG := wg_in (wt_2 (List.mem_of_getElem? (i := 151) rfl)) rfl
theorem tw_392 : (Jvm.Cond.code ({ cls := "DeckFront", name := "faultAt", desc := "()I" } : Jvm.MethodName) prog_1_method_12_code (1 : Nat) (Option.some Jvm.ClassFile.FieldType.int)) ∈ wG := wg_in (wt_2 (List.mem_of_getElem? (i := 152) rfl)) rfl
theorem tw_393 : (Jvm.Cond.methodLink "DeckFrontLaw" (28 : Nat) ({ cls := "DeckFrontLaw", name := "card", desc := "(LDeckFront;[J)I" } : Jvm.MethodName)) ∈ wG := wg_in (wt_2 (List.mem_of_getElem? (i := 153) rfl)) rfl
theorem tw_394 : (Jvm.Cond.static ({ cls := "DeckFrontLaw", name := "card", desc := "(LDeckFront;[J)I" } : Jvm.MethodName)) ∈ wG := wg_in (wt_2 (List.mem_of_getElem? (i := 154) rfl)) rfl
theorem tw_396 : (Jvm.Cond.classLink "DeckFrontLaw" (13 : Nat) "java/lang/IllegalArgumentException") ∈ wG := wg_in (wt_2 (List.mem_of_getElem? (i := 156) rfl)) rfl
theorem tw_397 : (Jvm.Cond.classLink "DeckFrontLaw" (15 : Nat) "java/lang/IllegalStateException") ∈ wG := wg_in (wt_2 (List.mem_of_getElem? (i := 157) rfl)) rfl
theorem tw_398 : (Jvm.Cond.methodLink "DeckFrontLaw" (7 : Nat) ({ cls := "DeckFront", name := "card", desc := "()I" } : Jvm.MethodName)) ∈ wG := wg_in (wt_2 (List.mem_of_getElem? (i := 158) rfl)) rfl
theorem tw_399 : (Jvm.Cond.instanceMethod ({ cls := "DeckFront", name := "card", desc := "()I" } : Jvm.MethodName)) ∈ wG := wg_in (wt_2 (List.mem_of_getElem? (i := 159) rfl)) rfl
theorem tw_400 : (Jvm.Cond.selects "DeckFront" ({ cls := "DeckFront", name := "card", desc := "()I" } : Jvm.MethodName) ({ cls := "DeckFront", name := "card", desc := "()I" } : Jvm.MethodName)) ∈ wG := wg_in (wt_2 (List.mem_of_getElem? (i := 160) rfl)) rfl
theorem tw_401 : (Jvm.Cond.code ({ cls := "DeckFront", name := "card", desc := "()I" } : Jvm.MethodName) prog_1_method_3_code (3 : Nat) (Option.some Jvm.ClassFile.FieldType.int)) ∈ wG := wg_in (wt_2 (List.mem_of_getElem? (i := 161) rfl)) rfl
theorem tw_402 : (Jvm.Cond.methodLink "DeckFront" (34 : Nat) ({ cls := "DeckFront$Deck", name := "join", desc := "(LDeckFront$Card;)I" } : Jvm.MethodName)) ∈ wG := wg_in (wt_2 (List.mem_of_getElem? (i := 162) rfl)) rfl
theorem tw_403 : (Jvm.Cond.instanceMethod ({ cls := "DeckFront$Deck", name := "join", desc := "(LDeckFront$Card;)I" } : Jvm.MethodName)) ∈ wG := wg_in (wt_2 (List.mem_of_getElem? (i := 163) rfl)) rfl
theorem tw_404 : (Jvm.Cond.selects "DeckFront$Deck" ({ cls := "DeckFront$Deck", name := "join", desc := "(LDeckFront$Card;)I" } : Jvm.MethodName) ({ cls := "DeckFront$Deck", name := "join", desc := "(LDeckFront$Card;)I" } : Jvm.MethodName)) ∈ wG := wg_in (wt_2 (List.mem_of_getElem? (i := 164) rfl)) rfl
theorem tw_405 : (Jvm.Cond.code ({ cls := "DeckFront$Deck", name := "join", desc := "(LDeckFront$Card;)I" } : Jvm.MethodName) prog_3_method_3_code (2 : Nat) (Option.some Jvm.ClassFile.FieldType.int)) ∈ wG := wg_in (wt_2 (List.mem_of_getElem? (i := 165) rfl)) rfl
theorem tw_406 : (Jvm.Cond.methodLink "DeckFront$Deck" (22 : Nat) ({ cls := "DeckFront$Card", name := "isComment", desc := "()Z" } : Jvm.MethodName)) ∈ wG := wg_in (wt_2 (List.mem_of_getElem? (i := 166) rfl)) rfl
theorem tw_407 : (Jvm.Cond.instanceMethod ({ cls := "DeckFront$Card", name := "isComment", desc := "()Z" } : Jvm.MethodName)) ∈ wG := wg_in (wt_2 (List.mem_of_getElem? (i := 167) rfl)) rfl
theorem tw_408 : (Jvm.Cond.selects "DeckFront$Card" ({ cls := "DeckFront$Card", name := "isComment", desc := "()Z" } : Jvm.MethodName) ({ cls := "DeckFront$Card", name := "isComment", desc := "()Z" } : Jvm.MethodName)) ∈ wG := wg_in (wt_2 (List.mem_of_getElem? (i := 168) rfl)) rfl
theorem tw_409 : (Jvm.Cond.code ({ cls := "DeckFront$Card", name := "isComment", desc := "()Z" } : Jvm.MethodName) prog_2_method_4_code (1 : Nat) (Option.some Jvm.ClassFile.FieldType.boolean)) ∈ wG := wg_in (wt_2 (List.mem_of_getElem? (i := 169) rfl)) rfl
theorem tw_410 : (Jvm.Cond.methodLink "DeckFront$Card" (37 : Nat) ({ cls := "DeckFront$Card", name := "isBlankTo", desc := "(I)Z" } : Jvm.MethodName)) ∈ wG := wg_in (wt_2 (List.mem_of_getElem? (i := 170) rfl)) rfl
theorem tw_411 : (Jvm.Cond.instanceMethod ({ cls := "DeckFront$Card", name := "isBlankTo", desc := "(I)Z" } : Jvm.MethodName)) ∈ wG := wg_in (wt_2 (List.mem_of_getElem? (i := 171) rfl)) rfl
theorem tw_412 : (Jvm.Cond.selects "DeckFront$Card" ({ cls := "DeckFront$Card", name := "isBlankTo", desc := "(I)Z" } : Jvm.MethodName) ({ cls := "DeckFront$Card", name := "isBlankTo", desc := "(I)Z" } : Jvm.MethodName)) ∈ wG := wg_in (wt_2 (List.mem_of_getElem? (i := 172) rfl)) rfl
theorem tw_413 : (Jvm.Cond.code ({ cls := "DeckFront$Card", name := "isBlankTo", desc := "(I)Z" } : Jvm.MethodName) prog_2_method_5_code (3 : Nat) (Option.some Jvm.ClassFile.FieldType.boolean)) ∈ wG := wg_in (wt_2 (List.mem_of_getElem? (i := 173) rfl)) rfl
theorem tw_414 : (Jvm.Cond.methodLink "DeckFront$Deck" (28 : Nat) ({ cls := "DeckFront$Card", name := "hasGoodLabelField", desc := "()Z" } : Jvm.MethodName)) ∈ wG := wg_in (wt_2 (List.mem_of_getElem? (i := 174) rfl)) rfl
theorem tw_415 : (Jvm.Cond.instanceMethod ({ cls := "DeckFront$Card", name := "hasGoodLabelField", desc := "()Z" } : Jvm.MethodName)) ∈ wG := wg_in (wt_2 (List.mem_of_getElem? (i := 175) rfl)) rfl
theorem tw_416 : (Jvm.Cond.selects "DeckFront$Card" ({ cls := "DeckFront$Card", name := "hasGoodLabelField", desc := "()Z" } : Jvm.MethodName) ({ cls := "DeckFront$Card", name := "hasGoodLabelField", desc := "()Z" } : Jvm.MethodName)) ∈ wG := wg_in (wt_2 (List.mem_of_getElem? (i := 176) rfl)) rfl
theorem tw_417 : (Jvm.Cond.code ({ cls := "DeckFront$Card", name := "hasGoodLabelField", desc := "()Z" } : Jvm.MethodName) prog_2_method_7_code (2 : Nat) (Option.some Jvm.ClassFile.FieldType.boolean)) ∈ wG := wg_in (wt_2 (List.mem_of_getElem? (i := 177) rfl)) rfl
theorem tw_418 : (Jvm.Cond.methodLink "DeckFront$Card" (40 : Nat) ({ cls := "DeckFront$Card", name := "continuesOne", desc := "()Z" } : Jvm.MethodName)) ∈ wG := wg_in (wt_2 (List.mem_of_getElem? (i := 178) rfl)) rfl
theorem tw_419 : (Jvm.Cond.instanceMethod ({ cls := "DeckFront$Card", name := "continuesOne", desc := "()Z" } : Jvm.MethodName)) ∈ wG := wg_in (wt_2 (List.mem_of_getElem? (i := 179) rfl)) rfl
theorem tw_420 : (Jvm.Cond.selects "DeckFront$Card" ({ cls := "DeckFront$Card", name := "continuesOne", desc := "()Z" } : Jvm.MethodName) ({ cls := "DeckFront$Card", name := "continuesOne", desc := "()Z" } : Jvm.MethodName)) ∈ wG := wg_in (wt_2 (List.mem_of_getElem? (i := 180) rfl)) rfl
theorem tw_421 : (Jvm.Cond.code ({ cls := "DeckFront$Card", name := "continuesOne", desc := "()Z" } : Jvm.MethodName) prog_2_method_6_code (1 : Nat) (Option.some Jvm.ClassFile.FieldType.boolean)) ∈ wG := wg_in (wt_2 (List.mem_of_getElem? (i := 181) rfl)) rfl
theorem tw_422 : (Jvm.Cond.methodLink "DeckFront$Deck" (31 : Nat) ({ cls := "DeckFront$Card", name := "continuesOne", desc := "()Z" } : Jvm.MethodName)) ∈ wG := wg_in (wt_2 (List.mem_of_getElem? (i := 182) rfl)) rfl
theorem tw_423 : (Jvm.Cond.methodLink "DeckFront$Deck" (34 : Nat) ({ cls := "DeckFront$Deck", name := "carryOn", desc := "(LDeckFront$Card;)I" } : Jvm.MethodName)) ∈ wG := wg_in (wt_2 (List.mem_of_getElem? (i := 183) rfl)) rfl
theorem tw_425 : (Jvm.Cond.instanceMethod ({ cls := "DeckFront$Deck", name := "carryOn", desc := "(LDeckFront$Card;)I" } : Jvm.MethodName)) ∈ wG := wg_in (wt_2 (List.mem_of_getElem? (i := 185) rfl)) rfl
theorem tw_426 : (Jvm.Cond.code ({ cls := "DeckFront$Deck", name := "carryOn", desc := "(LDeckFront$Card;)I" } : Jvm.MethodName) prog_3_method_5_code (3 : Nat) (Option.some Jvm.ClassFile.FieldType.int)) ∈ wG := wg_in (wt_2 (List.mem_of_getElem? (i := 186) rfl)) rfl
theorem tw_427 : (Jvm.Cond.methodLink "DeckFront$Deck" (55 : Nat) ({ cls := "DeckFront$Deck", name := "find", desc := "(I)LDeckFront$Statement;" } : Jvm.MethodName)) ∈ wG := wg_in (wt_2 (List.mem_of_getElem? (i := 187) rfl)) rfl
theorem tw_428 : (Jvm.Cond.methodLink "DeckFront$Deck" (51 : Nat) ({ cls := "DeckFront$Statement", name := "append", desc := "(LDeckFront$Card;)Z" } : Jvm.MethodName)) ∈ wG := wg_in (wt_2 (List.mem_of_getElem? (i := 188) rfl)) rfl
theorem tw_429 : (Jvm.Cond.sameMethod "DeckFront$Statement" "DeckFront$Tape" "append" "(LDeckFront$Card;)Z") ∈ wG := wg_in (wt_2 (List.mem_of_getElem? (i := 189) rfl)) rfl
theorem tw_431 : (Jvm.Cond.selects "DeckFront$Statement" ({ cls := "DeckFront$Statement", name := "append", desc := "(LDeckFront$Card;)Z" } : Jvm.MethodName) ({ cls := "DeckFront$Tape", name := "append", desc := "(LDeckFront$Card;)Z" } : Jvm.MethodName)) ∈ wG := wg_in (wt_2 (List.mem_of_getElem? (i := 191) rfl)) rfl
theorem tw_432 : (Jvm.Cond.instanceMethod ({ cls := "DeckFront$Tape", name := "append", desc := "(LDeckFront$Card;)Z" } : Jvm.MethodName)) ∈ wG := wg_in (wt_2 (List.mem_of_getElem? (i := 192) rfl)) rfl
theorem tw_433 : (Jvm.Cond.code ({ cls := "DeckFront$Tape", name := "append", desc := "(LDeckFront$Card;)Z" } : Jvm.MethodName) prog_6_method_3_code (6 : Nat) (Option.some Jvm.ClassFile.FieldType.boolean)) ∈ wG := wg_in (wt_2 (List.mem_of_getElem? (i := 193) rfl)) rfl
theorem tw_434 : (Jvm.Cond.methodLink "DeckFront$Deck" (38 : Nat) ({ cls := "DeckFront$Deck", name := "begin", desc := "(LDeckFront$Card;)I" } : Jvm.MethodName)) ∈ wG := wg_in (wt_2 (List.mem_of_getElem? (i := 194) rfl)) rfl
theorem tw_436 : (Jvm.Cond.instanceMethod ({ cls := "DeckFront$Deck", name := "begin", desc := "(LDeckFront$Card;)I" } : Jvm.MethodName)) ∈ wG := wg_in (wt_2 (List.mem_of_getElem? (i := 196) rfl)) rfl
theorem tw_437 : (Jvm.Cond.code ({ cls := "DeckFront$Deck", name := "begin", desc := "(LDeckFront$Card;)I" } : Jvm.MethodName) prog_3_method_4_code (3 : Nat) (Option.some Jvm.ClassFile.FieldType.int)) ∈ wG := wg_in (wt_2 (List.mem_of_getElem? (i := 197) rfl)) rfl
theorem tw_438 : (Jvm.Cond.methodLink "DeckFront$Deck" (41 : Nat) ({ cls := "DeckFront$Card", name := "numberInLabelField", desc := "()I" } : Jvm.MethodName)) ∈ wG := wg_in (wt_2 (List.mem_of_getElem? (i := 198) rfl)) rfl
theorem tw_439 : (Jvm.Cond.instanceMethod ({ cls := "DeckFront$Card", name := "numberInLabelField", desc := "()I" } : Jvm.MethodName)) ∈ wG := wg_in (wt_2 (List.mem_of_getElem? (i := 199) rfl)) rfl
theorem tw_440 : (Jvm.Cond.selects "DeckFront$Card" ({ cls := "DeckFront$Card", name := "numberInLabelField", desc := "()I" } : Jvm.MethodName) ({ cls := "DeckFront$Card", name := "numberInLabelField", desc := "()I" } : Jvm.MethodName)) ∈ wG := wg_in (wt_2 (List.mem_of_getElem? (i := 200) rfl)) rfl
theorem tw_441 : (Jvm.Cond.code ({ cls := "DeckFront$Card", name := "numberInLabelField", desc := "()I" } : Jvm.MethodName) prog_2_method_8_code (3 : Nat) (Option.some Jvm.ClassFile.FieldType.int)) ∈ wG := wg_in (wt_2 (List.mem_of_getElem? (i := 201) rfl)) rfl
theorem tw_442 : (Jvm.Cond.methodLink "DeckFront$Deck" (48 : Nat) ({ cls := "DeckFront$Statement", name := "wipe", desc := "()V" } : Jvm.MethodName)) ∈ wG := wg_in (wt_2 (List.mem_of_getElem? (i := 202) rfl)) rfl
theorem tw_443 : (Jvm.Cond.sameMethod "DeckFront$Statement" "DeckFront$Tape" "wipe" "()V") ∈ wG := wg_in (wt_2 (List.mem_of_getElem? (i := 203) rfl)) rfl
theorem tw_445 : (Jvm.Cond.selects "DeckFront$Statement" ({ cls := "DeckFront$Statement", name := "wipe", desc := "()V" } : Jvm.MethodName) ({ cls := "DeckFront$Tape", name := "wipe", desc := "()V" } : Jvm.MethodName)) ∈ wG := wg_in (wt_2 (List.mem_of_getElem? (i := 205) rfl)) rfl
theorem tw_446 : (Jvm.Cond.instanceMethod ({ cls := "DeckFront$Tape", name := "wipe", desc := "()V" } : Jvm.MethodName)) ∈ wG := wg_in (wt_2 (List.mem_of_getElem? (i := 206) rfl)) rfl
theorem tw_447 : (Jvm.Cond.code ({ cls := "DeckFront$Tape", name := "wipe", desc := "()V" } : Jvm.MethodName) prog_6_method_2_code (1 : Nat) (Option.none : Option Jvm.ClassFile.FieldType)) ∈ wG := wg_in (wt_2 (List.mem_of_getElem? (i := 207) rfl)) rfl
theorem tw_448 : (Jvm.Cond.classLink "DeckFront" (42 : Nat) "java/lang/IllegalArgumentException") ∈ wG := wg_in (wt_2 (List.mem_of_getElem? (i := 208) rfl)) rfl
theorem tw_449 : (Jvm.Cond.instantiable "java/lang/IllegalArgumentException" (6 : Nat)) ∈ wG := wg_in (wt_2 (List.mem_of_getElem? (i := 209) rfl)) rfl
theorem tw_457 : (Jvm.Cond.selects "java/lang/IllegalArgumentException" ({ cls := "java/lang/Throwable", name := "fillInStackTrace", desc := "(I)Ljava/lang/Throwable;" } : Jvm.MethodName) ({ cls := "java/lang/Throwable", name := "fillInStackTrace", desc := "(I)Ljava/lang/Throwable;" } : Jvm.MethodName)) ∈ wG := wg_in (wt_2 (List.mem_of_getElem? (i := 217) rfl)) rfl
theorem tw_458 : (Jvm.Cond.selects "java/lang/IllegalArgumentException" ({ cls := "java/lang/Throwable", name := "fillInStackTrace", desc := "()Ljava/lang/Throwable;" } : Jvm.MethodName) ({ cls := "java/lang/Throwable", name := "fillInStackTrace", desc := "()Ljava/lang/Throwable;" } : Jvm.MethodName)) ∈ wG := wg_in (wt_2 (List.mem_of_getElem? (i := 218) rfl)) rfl
theorem tw_459 : (Jvm.Cond.lays "java/lang/IllegalArgumentException" "java/lang/Throwable" "cause" "Ljava/lang/Throwable;") ∈ wG := wg_in (wt_2 (List.mem_of_getElem? (i := 219) rfl)) rfl
theorem tw_460 : (Jvm.Cond.lays "java/lang/Throwable" "java/lang/Throwable" "cause" "Ljava/lang/Throwable;") ∈ wG := wg_in (wt_2 (List.mem_of_getElem? (i := 220) rfl)) rfl
theorem tw_461 : (Jvm.Cond.lays "java/lang/IllegalArgumentException" "java/lang/Throwable" "stackTrace" "[Ljava/lang/StackTraceElement;") ∈ wG := wg_in (wt_2 (List.mem_of_getElem? (i := 221) rfl)) rfl
theorem tw_462 : (Jvm.Cond.lays "java/lang/Throwable" "java/lang/Throwable" "stackTrace" "[Ljava/lang/StackTraceElement;") ∈ wG := wg_in (wt_2 (List.mem_of_getElem? (i := 222) rfl)) rfl
theorem tw_463 : (Jvm.Cond.lays "java/lang/IllegalArgumentException" "java/lang/Throwable" "suppressedExceptions" "Ljava/util/List;") ∈ wG := wg_in (wt_2 (List.mem_of_getElem? (i := 223) rfl)) rfl
theorem tw_464 : (Jvm.Cond.lays "java/lang/Throwable" "java/lang/Throwable" "suppressedExceptions" "Ljava/util/List;") ∈ wG := wg_in (wt_2 (List.mem_of_getElem? (i := 224) rfl)) rfl
theorem tw_465 : (Jvm.Cond.lays "java/lang/IllegalArgumentException" "java/lang/Throwable" "detailMessage" "Ljava/lang/String;") ∈ wG := wg_in (wt_2 (List.mem_of_getElem? (i := 225) rfl)) rfl
theorem tw_466 : (Jvm.Cond.lays "java/lang/Throwable" "java/lang/Throwable" "detailMessage" "Ljava/lang/String;") ∈ wG := wg_in (wt_2 (List.mem_of_getElem? (i := 226) rfl)) rfl
theorem tw_467 : (Jvm.Cond.lays "java/lang/IllegalArgumentException" "java/lang/Throwable" "backtrace" "Ljava/lang/Object;") ∈ wG := wg_in (wt_2 (List.mem_of_getElem? (i := 227) rfl)) rfl
theorem tw_468 : (Jvm.Cond.lays "java/lang/Throwable" "java/lang/Throwable" "backtrace" "Ljava/lang/Object;") ∈ wG := wg_in (wt_2 (List.mem_of_getElem? (i := 228) rfl)) rfl
theorem tw_469 : (Jvm.Cond.fieldLink "java/lang/Throwable" (198 : Nat) "java/lang/Throwable" "backtrace" "Ljava/lang/Object;") ∈ wG := wg_in (wt_2 (List.mem_of_getElem? (i := 229) rfl)) rfl
theorem tw_471 : (Jvm.Cond.instanceMethod ({ cls := "java/lang/Throwable", name := "<init>", desc := "()V" } : Jvm.MethodName)) ∈ wG := wg_in (wt_2 (List.mem_of_getElem? (i := 231) rfl)) rfl
theorem tw_472 : (Jvm.Cond.code ({ cls := "java/lang/Throwable", name := "<init>", desc := "()V" } : Jvm.MethodName) prog_18_method_1_code (1 : Nat) (Option.none : Option Jvm.ClassFile.FieldType)) ∈ wG := wg_in (wt_2 (List.mem_of_getElem? (i := 232) rfl)) rfl
theorem tw_473 : (Jvm.Cond.methodLink "java/lang/Throwable" (1 : Nat) ({ cls := "java/lang/Object", name := "<init>", desc := "()V" } : Jvm.MethodName)) ∈ wG := wg_in (wt_2 (List.mem_of_getElem? (i := 233) rfl)) rfl
theorem tw_474 : (Jvm.Cond.fieldLink "java/lang/Throwable" (13 : Nat) "java/lang/Throwable" "UNASSIGNED_STACK" "[Ljava/lang/StackTraceElement;") ∈ wG := wg_in (wt_2 (List.mem_of_getElem? (i := 234) rfl)) rfl
theorem tw_476 : (Jvm.Cond.fieldLink "java/lang/Throwable" (20 : Nat) "java/lang/Throwable" "SUPPRESSED_SENTINEL" "Ljava/util/List;") ∈ wG := wg_in (wt_2 (List.mem_of_getElem? (i := 236) rfl)) rfl
theorem tw_478 : (Jvm.Cond.methodLink "java/lang/Throwable" (27 : Nat) ({ cls := "java/lang/Throwable", name := "fillInStackTrace", desc := "()Ljava/lang/Throwable;" } : Jvm.MethodName)) ∈ wG := wg_in (wt_2 (List.mem_of_getElem? (i := 238) rfl)) rfl
theorem tw_479 : (Jvm.Cond.instanceMethod ({ cls := "java/lang/Throwable", name := "fillInStackTrace", desc := "()Ljava/lang/Throwable;" } : Jvm.MethodName)) ∈ wG := wg_in (wt_2 (List.mem_of_getElem? (i := 239) rfl)) rfl
theorem tw_480 : (Jvm.Cond.sameMethod "java/lang/Throwable" "java/lang/Throwable" "fillInStackTrace" "()Ljava/lang/Throwable;") ∈ wG := wg_in (wt_3 (List.mem_of_getElem? (i := 0) rfl)) rfl
theorem tw_481 : (Jvm.Cond.selects "java/lang/IllegalStateException" ({ cls := "java/lang/Throwable", name := "fillInStackTrace", desc := "()Ljava/lang/Throwable;" } : Jvm.MethodName) ({ cls := "java/lang/Throwable", name := "fillInStackTrace", desc := "()Ljava/lang/Throwable;" } : Jvm.MethodName)) ∈ wG := wg_in (wt_3 (List.mem_of_getElem? (i := 1) rfl)) rfl
theorem tw_483 : (Jvm.Cond.methodLink "java/lang/Throwable" (202 : Nat) ({ cls := "java/lang/Throwable", name := "fillInStackTrace", desc := "(I)Ljava/lang/Throwable;" } : Jvm.MethodName)) ∈ wG := wg_in (wt_3 (List.mem_of_getElem? (i := 3) rfl)) rfl
theorem tw_485 : (Jvm.Cond.instanceMethod ({ cls := "java/lang/Throwable", name := "fillInStackTrace", desc := "(I)Ljava/lang/Throwable;" } : Jvm.MethodName)) ∈ wG := wg_in (wt_3 (List.mem_of_getElem? (i := 5) rfl)) rfl
theorem tw_486 : (Jvm.Cond.instantiable "java/lang/Throwable" (6 : Nat)) ∈ wG := wg_in (wt_3 (List.mem_of_getElem? (i := 6) rfl)) rfl
theorem tw_489 : (Jvm.Cond.methodLink "DeckFront" (46 : Nat) ({ cls := "java/lang/IllegalArgumentException", name := "<init>", desc := "(Ljava/lang/String;)V" } : Jvm.MethodName)) ∈ wG := wg_in (wt_3 (List.mem_of_getElem? (i := 9) rfl)) rfl
theorem tw_490 : (Jvm.Cond.instanceMethod ({ cls := "java/lang/IllegalArgumentException", name := "<init>", desc := "(Ljava/lang/String;)V" } : Jvm.MethodName)) ∈ wG := wg_in (wt_3 (List.mem_of_getElem? (i := 10) rfl)) rfl
theorem tw_491 : (Jvm.Cond.code ({ cls := "java/lang/IllegalArgumentException", name := "<init>", desc := "(Ljava/lang/String;)V" } : Jvm.MethodName) prog_11_method_2_code (2 : Nat) (Option.none : Option Jvm.ClassFile.FieldType)) ∈ wG := wg_in (wt_3 (List.mem_of_getElem? (i := 11) rfl)) rfl
theorem tw_492 : (Jvm.Cond.methodLink "java/lang/IllegalArgumentException" (7 : Nat) ({ cls := "java/lang/RuntimeException", name := "<init>", desc := "(Ljava/lang/String;)V" } : Jvm.MethodName)) ∈ wG := wg_in (wt_3 (List.mem_of_getElem? (i := 12) rfl)) rfl
theorem tw_493 : (Jvm.Cond.instanceMethod ({ cls := "java/lang/RuntimeException", name := "<init>", desc := "(Ljava/lang/String;)V" } : Jvm.MethodName)) ∈ wG := wg_in (wt_3 (List.mem_of_getElem? (i := 13) rfl)) rfl
theorem tw_494 : (Jvm.Cond.code ({ cls := "java/lang/RuntimeException", name := "<init>", desc := "(Ljava/lang/String;)V" } : Jvm.MethodName) prog_14_method_2_code (2 : Nat) (Option.none : Option Jvm.ClassFile.FieldType)) ∈ wG := wg_in (wt_3 (List.mem_of_getElem? (i := 14) rfl)) rfl
theorem tw_495 : (Jvm.Cond.methodLink "java/lang/RuntimeException" (7 : Nat) ({ cls := "java/lang/Exception", name := "<init>", desc := "(Ljava/lang/String;)V" } : Jvm.MethodName)) ∈ wG := wg_in (wt_3 (List.mem_of_getElem? (i := 15) rfl)) rfl
theorem tw_496 : (Jvm.Cond.instanceMethod ({ cls := "java/lang/Exception", name := "<init>", desc := "(Ljava/lang/String;)V" } : Jvm.MethodName)) ∈ wG := wg_in (wt_3 (List.mem_of_getElem? (i := 16) rfl)) rfl
theorem tw_497 : (Jvm.Cond.code ({ cls := "java/lang/Exception", name := "<init>", desc := "(Ljava/lang/String;)V" } : Jvm.MethodName) prog_10_method_2_code (2 : Nat) (Option.none : Option Jvm.ClassFile.FieldType)) ∈ wG := wg_in (wt_3 (List.mem_of_getElem? (i := 17) rfl)) rfl
theorem tw_498 : (Jvm.Cond.methodLink "java/lang/Exception" (7 : Nat) ({ cls := "java/lang/Throwable", name := "<init>", desc := "(Ljava/lang/String;)V" } : Jvm.MethodName)) ∈ wG := wg_in (wt_3 (List.mem_of_getElem? (i := 18) rfl)) rfl
theorem tw_499 : (Jvm.Cond.instanceMethod ({ cls := "java/lang/Throwable", name := "<init>", desc := "(Ljava/lang/String;)V" } : Jvm.MethodName)) ∈ wG := wg_in (wt_3 (List.mem_of_getElem? (i := 19) rfl)) rfl
theorem tw_500 : (Jvm.Cond.code ({ cls := "java/lang/Throwable", name := "<init>", desc := "(Ljava/lang/String;)V" } : Jvm.MethodName) prog_18_method_2_code (2 : Nat) (Option.none : Option Jvm.ClassFile.FieldType)) ∈ wG := wg_in (wt_3 (List.mem_of_getElem? (i := 20) rfl)) rfl
theorem tw_501 : (Jvm.Cond.fieldLink "java/lang/Throwable" (198 : Nat) "java/lang/Throwable" "backtrace" "Ljava/lang/Object;") ∈ wG := wg_in (wt_3 (List.mem_of_getElem? (i := 21) rfl)) rfl
theorem tw_502 : (Jvm.Cond.fieldLink "java/lang/Throwable" (31 : Nat) "java/lang/Throwable" "detailMessage" "Ljava/lang/String;") ∈ wG := wg_in (wt_3 (List.mem_of_getElem? (i := 22) rfl)) rfl
theorem tw_503 : (Jvm.Cond.fieldLink "java/lang/Throwable" (7 : Nat) "java/lang/Throwable" "cause" "Ljava/lang/Throwable;") ∈ wG := wg_in (wt_3 (List.mem_of_getElem? (i := 23) rfl)) rfl
theorem tw_504 : (Jvm.Cond.fieldLink "java/lang/Throwable" (17 : Nat) "java/lang/Throwable" "stackTrace" "[Ljava/lang/StackTraceElement;") ∈ wG := wg_in (wt_3 (List.mem_of_getElem? (i := 24) rfl)) rfl
theorem tw_505 : (Jvm.Cond.fieldLink "java/lang/Throwable" (24 : Nat) "java/lang/Throwable" "suppressedExceptions" "Ljava/util/List;") ∈ wG := wg_in (wt_3 (List.mem_of_getElem? (i := 25) rfl)) rfl
theorem tw_510 : (Jvm.Cond.lays "java/lang/IllegalArgumentException" "java/lang/Throwable" "depth" "I") ∈ wG := wg_in (wt_3 (List.mem_of_getElem? (i := 30) rfl)) rfl
theorem tw_514 : (Jvm.Cond.classLink "DeckFront" (49 : Nat) "java/lang/IllegalStateException") ∈ wG := wg_in (wt_3 (List.mem_of_getElem? (i := 34) rfl)) rfl
theorem tw_515 : (Jvm.Cond.instantiable "java/lang/IllegalStateException" (6 : Nat)) ∈ wG := wg_in (wt_3 (List.mem_of_getElem? (i := 35) rfl)) rfl
theorem tw_517 : (Jvm.Cond.selects "java/lang/IllegalStateException" ({ cls := "java/lang/Throwable", name := "fillInStackTrace", desc := "(I)Ljava/lang/Throwable;" } : Jvm.MethodName) ({ cls := "java/lang/Throwable", name := "fillInStackTrace", desc := "(I)Ljava/lang/Throwable;" } : Jvm.MethodName)) ∈ wG := wg_in (wt_3 (List.mem_of_getElem? (i := 37) rfl)) rfl
theorem tw_518 : (Jvm.Cond.lays "java/lang/IllegalStateException" "java/lang/Throwable" "cause" "Ljava/lang/Throwable;") ∈ wG := wg_in (wt_3 (List.mem_of_getElem? (i := 38) rfl)) rfl
theorem tw_519 : (Jvm.Cond.lays "java/lang/IllegalStateException" "java/lang/Throwable" "stackTrace" "[Ljava/lang/StackTraceElement;") ∈ wG := wg_in (wt_3 (List.mem_of_getElem? (i := 39) rfl)) rfl
theorem tw_520 : (Jvm.Cond.lays "java/lang/IllegalStateException" "java/lang/Throwable" "suppressedExceptions" "Ljava/util/List;") ∈ wG := wg_in (wt_3 (List.mem_of_getElem? (i := 40) rfl)) rfl
theorem tw_521 : (Jvm.Cond.lays "java/lang/IllegalStateException" "java/lang/Throwable" "detailMessage" "Ljava/lang/String;") ∈ wG := wg_in (wt_3 (List.mem_of_getElem? (i := 41) rfl)) rfl
theorem tw_522 : (Jvm.Cond.lays "java/lang/IllegalStateException" "java/lang/Throwable" "backtrace" "Ljava/lang/Object;") ∈ wG := wg_in (wt_3 (List.mem_of_getElem? (i := 42) rfl)) rfl
theorem tw_524 : (Jvm.Cond.methodLink "DeckFront" (53 : Nat) ({ cls := "java/lang/IllegalStateException", name := "<init>", desc := "(Ljava/lang/String;)V" } : Jvm.MethodName)) ∈ wG := wg_in (wt_3 (List.mem_of_getElem? (i := 44) rfl)) rfl
theorem tw_525 : (Jvm.Cond.instanceMethod ({ cls := "java/lang/IllegalStateException", name := "<init>", desc := "(Ljava/lang/String;)V" } : Jvm.MethodName)) ∈ wG := wg_in (wt_3 (List.mem_of_getElem? (i := 45) rfl)) rfl
theorem tw_526 : (Jvm.Cond.code ({ cls := "java/lang/IllegalStateException", name := "<init>", desc := "(Ljava/lang/String;)V" } : Jvm.MethodName) prog_12_method_2_code (2 : Nat) (Option.none : Option Jvm.ClassFile.FieldType)) ∈ wG := wg_in (wt_3 (List.mem_of_getElem? (i := 46) rfl)) rfl
theorem tw_527 : (Jvm.Cond.methodLink "java/lang/IllegalStateException" (7 : Nat) ({ cls := "java/lang/RuntimeException", name := "<init>", desc := "(Ljava/lang/String;)V" } : Jvm.MethodName)) ∈ wG := wg_in (wt_3 (List.mem_of_getElem? (i := 47) rfl)) rfl
theorem tw_528 : (Jvm.Cond.lays "java/lang/IllegalStateException" "java/lang/Throwable" "depth" "I") ∈ wG := wg_in (wt_3 (List.mem_of_getElem? (i := 48) rfl)) rfl
theorem tw_530 : (Jvm.Cond.methodLink "DeckFront" (58 : Nat) ({ cls := "DeckFront$Statement", name := "recognise", desc := "()V" } : Jvm.MethodName)) ∈ wG := wg_in (wt_3 (List.mem_of_getElem? (i := 50) rfl)) rfl
theorem tw_531 : (Jvm.Cond.instanceMethod ({ cls := "DeckFront$Statement", name := "recognise", desc := "()V" } : Jvm.MethodName)) ∈ wG := wg_in (wt_3 (List.mem_of_getElem? (i := 51) rfl)) rfl
theorem tw_532 : (Jvm.Cond.selects "DeckFront$Statement" ({ cls := "DeckFront$Statement", name := "recognise", desc := "()V" } : Jvm.MethodName) ({ cls := "DeckFront$Statement", name := "recognise", desc := "()V" } : Jvm.MethodName)) ∈ wG := wg_in (wt_3 (List.mem_of_getElem? (i := 52) rfl)) rfl
theorem tw_533 : (Jvm.Cond.code ({ cls := "DeckFront$Statement", name := "recognise", desc := "()V" } : Jvm.MethodName) prog_4_method_2_code (1 : Nat) (Option.none : Option Jvm.ClassFile.FieldType)) ∈ wG := wg_in (wt_3 (List.mem_of_getElem? (i := 53) rfl)) rfl
theorem tw_534 : (Jvm.Cond.methodLink "DeckFront$Statement" (18 : Nat) ({ cls := "DeckFront$Statement", name := "firstThatFits", desc := "(I)I" } : Jvm.MethodName)) ∈ wG := wg_in (wt_3 (List.mem_of_getElem? (i := 54) rfl)) rfl
theorem tw_536 : (Jvm.Cond.instanceMethod ({ cls := "DeckFront$Statement", name := "firstThatFits", desc := "(I)I" } : Jvm.MethodName)) ∈ wG := wg_in (wt_3 (List.mem_of_getElem? (i := 56) rfl)) rfl
theorem tw_537 : (Jvm.Cond.code ({ cls := "DeckFront$Statement", name := "firstThatFits", desc := "(I)I" } : Jvm.MethodName) prog_4_method_4_code (3 : Nat) (Option.some Jvm.ClassFile.FieldType.int)) ∈ wG := wg_in (wt_3 (List.mem_of_getElem? (i := 57) rfl)) rfl
theorem tw_538 : (Jvm.Cond.methodLink "DeckFront$Statement" (41 : Nat) ({ cls := "DeckFront$Statement", name := "goBackTo", desc := "(I)V" } : Jvm.MethodName)) ∈ wG := wg_in (wt_3 (List.mem_of_getElem? (i := 58) rfl)) rfl
theorem tw_539 : (Jvm.Cond.sameMethod "DeckFront$Statement" "DeckFront$Tape" "goBackTo" "(I)V") ∈ wG := wg_in (wt_3 (List.mem_of_getElem? (i := 59) rfl)) rfl
theorem tw_541 : (Jvm.Cond.selects "DeckFront$Statement" ({ cls := "DeckFront$Statement", name := "goBackTo", desc := "(I)V" } : Jvm.MethodName) ({ cls := "DeckFront$Tape", name := "goBackTo", desc := "(I)V" } : Jvm.MethodName)) ∈ wG := wg_in (wt_3 (List.mem_of_getElem? (i := 61) rfl)) rfl
theorem tw_542 : (Jvm.Cond.instanceMethod ({ cls := "DeckFront$Tape", name := "goBackTo", desc := "(I)V" } : Jvm.MethodName)) ∈ wG := wg_in (wt_3 (List.mem_of_getElem? (i := 62) rfl)) rfl
theorem tw_543 : (Jvm.Cond.code ({ cls := "DeckFront$Tape", name := "goBackTo", desc := "(I)V" } : Jvm.MethodName) prog_6_method_4_code (3 : Nat) (Option.none : Option Jvm.ClassFile.FieldType)) ∈ wG := wg_in (wt_3 (List.mem_of_getElem? (i := 63) rfl)) rfl
theorem tw_544 : (Jvm.Cond.methodLink "DeckFront$Statement" (45 : Nat) ({ cls := "DeckFront$Statement", name := "fits", desc := "(I)Z" } : Jvm.MethodName)) ∈ wG := wg_in (wt_3 (List.mem_of_getElem? (i := 64) rfl)) rfl
theorem tw_546 : (Jvm.Cond.instanceMethod ({ cls := "DeckFront$Statement", name := "fits", desc := "(I)Z" } : Jvm.MethodName)) ∈ wG := wg_in (wt_3 (List.mem_of_getElem? (i := 66) rfl)) rfl
theorem tw_547 : (Jvm.Cond.code ({ cls := "DeckFront$Statement", name := "fits", desc := "(I)Z" } : Jvm.MethodName) prog_4_method_5_code (2 : Nat) (Option.some Jvm.ClassFile.FieldType.boolean)) ∈ wG := wg_in (wt_3 (List.mem_of_getElem? (i := 67) rfl)) rfl
theorem tw_549 : (Jvm.Cond.methodLink "DeckFront$Statement" (27 : Nat) ({ cls := "DeckFront$Statement", name := "take", desc := "(Ljava/lang/String;)Z" } : Jvm.MethodName)) ∈ wG := wg_in (wt_3 (List.mem_of_getElem? (i := 69) rfl)) rfl
theorem tw_550 : (Jvm.Cond.sameMethod "DeckFront$Statement" "DeckFront$Tape" "take" "(Ljava/lang/String;)Z") ∈ wG := wg_in (wt_3 (List.mem_of_getElem? (i := 70) rfl)) rfl
theorem tw_552 : (Jvm.Cond.selects "DeckFront$Statement" ({ cls := "DeckFront$Statement", name := "take", desc := "(Ljava/lang/String;)Z" } : Jvm.MethodName) ({ cls := "DeckFront$Tape", name := "take", desc := "(Ljava/lang/String;)Z" } : Jvm.MethodName)) ∈ wG := wg_in (wt_3 (List.mem_of_getElem? (i := 72) rfl)) rfl
theorem tw_553 : (Jvm.Cond.instanceMethod ({ cls := "DeckFront$Tape", name := "take", desc := "(Ljava/lang/String;)Z" } : Jvm.MethodName)) ∈ wG := wg_in (wt_3 (List.mem_of_getElem? (i := 73) rfl)) rfl
theorem tw_554 : (Jvm.Cond.code ({ cls := "DeckFront$Tape", name := "take", desc := "(Ljava/lang/String;)Z" } : Jvm.MethodName) prog_6_method_7_code (2 : Nat) (Option.some Jvm.ClassFile.FieldType.boolean)) ∈ wG := wg_in (wt_3 (List.mem_of_getElem? (i := 74) rfl)) rfl
theorem tw_555 : (Jvm.Cond.methodLink "DeckFront$Tape" (51 : Nat) ({ cls := "DeckFront$Tape", name := "stands", desc := "(ILjava/lang/String;)Z" } : Jvm.MethodName)) ∈ wG := wg_in (wt_3 (List.mem_of_getElem? (i := 75) rfl)) rfl
theorem tw_556 : (Jvm.Cond.instanceMethod ({ cls := "DeckFront$Tape", name := "stands", desc := "(ILjava/lang/String;)Z" } : Jvm.MethodName)) ∈ wG := wg_in (wt_3 (List.mem_of_getElem? (i := 76) rfl)) rfl
theorem tw_557 : (Jvm.Cond.sameMethod "DeckFront$Tape" "DeckFront$Tape" "stands" "(ILjava/lang/String;)Z") ∈ wG := wg_in (wt_3 (List.mem_of_getElem? (i := 77) rfl)) rfl
theorem tw_558 : (Jvm.Cond.selects "DeckFront$Statement" ({ cls := "DeckFront$Tape", name := "stands", desc := "(ILjava/lang/String;)Z" } : Jvm.MethodName) ({ cls := "DeckFront$Tape", name := "stands", desc := "(ILjava/lang/String;)Z" } : Jvm.MethodName)) ∈ wG := wg_in (wt_3 (List.mem_of_getElem? (i := 78) rfl)) rfl
theorem tw_559 : (Jvm.Cond.code ({ cls := "DeckFront$Tape", name := "stands", desc := "(ILjava/lang/String;)Z" } : Jvm.MethodName) prog_6_method_6_code (4 : Nat) (Option.some Jvm.ClassFile.FieldType.boolean)) ∈ wG := wg_in (wt_3 (List.mem_of_getElem? (i := 79) rfl)) rfl
theorem tw_560 : (Jvm.Cond.methodLink "DeckFront$Tape" (42 : Nat) ({ cls := "java/lang/String", name := "length", desc := "()I" } : Jvm.MethodName)) ∈ wG := wg_in (wt_3 (List.mem_of_getElem? (i := 80) rfl)) rfl
theorem tw_561 : (Jvm.Cond.methodLink "DeckFront$Tape" (47 : Nat) ({ cls := "java/lang/String", name := "charAt", desc := "(I)C" } : Jvm.MethodName)) ∈ wG := wg_in (wt_3 (List.mem_of_getElem? (i := 81) rfl)) rfl
theorem tw_562 : (Jvm.Cond.instanceMethod ({ cls := "java/lang/String", name := "charAt", desc := "(I)C" } : Jvm.MethodName)) ∈ wG := wg_in (wt_3 (List.mem_of_getElem? (i := 82) rfl)) rfl
theorem tw_563 : (Jvm.Cond.selects "java/lang/String" ({ cls := "java/lang/String", name := "charAt", desc := "(I)C" } : Jvm.MethodName) ({ cls := "java/lang/String", name := "charAt", desc := "(I)C" } : Jvm.MethodName)) ∈ wG := wg_in (wt_3 (List.mem_of_getElem? (i := 83) rfl)) rfl
theorem tw_564 : (Jvm.Cond.code ({ cls := "java/lang/String", name := "charAt", desc := "(I)C" } : Jvm.MethodName) prog_15_method_56_code (2 : Nat) (Option.some Jvm.ClassFile.FieldType.char)) ∈ wG := wg_in (wt_3 (List.mem_of_getElem? (i := 84) rfl)) rfl
theorem tw_565 : (Jvm.Cond.methodLink "java/lang/String" (495 : Nat) ({ cls := "java/lang/StringLatin1", name := "charAt", desc := "([BI)C" } : Jvm.MethodName)) ∈ wG := wg_in (wt_3 (List.mem_of_getElem? (i := 85) rfl)) rfl
theorem tw_566 : (Jvm.Cond.static ({ cls := "java/lang/StringLatin1", name := "charAt", desc := "([BI)C" } : Jvm.MethodName)) ∈ wG := wg_in (wt_3 (List.mem_of_getElem? (i := 86) rfl)) rfl
theorem tw_567 : (Jvm.Cond.code ({ cls := "java/lang/StringLatin1", name := "charAt", desc := "([BI)C" } : Jvm.MethodName) prog_16_method_2_code (2 : Nat) (Option.some Jvm.ClassFile.FieldType.char)) ∈ wG := wg_in (wt_3 (List.mem_of_getElem? (i := 87) rfl)) rfl
theorem tw_568 : (Jvm.Cond.methodLink "java/lang/StringLatin1" (9 : Nat) ({ cls := "java/lang/String", name := "checkIndex", desc := "(II)V" } : Jvm.MethodName)) ∈ wG := wg_in (wt_3 (List.mem_of_getElem? (i := 88) rfl)) rfl
theorem tw_569 : (Jvm.Cond.static ({ cls := "java/lang/String", name := "checkIndex", desc := "(II)V" } : Jvm.MethodName)) ∈ wG := wg_in (wt_3 (List.mem_of_getElem? (i := 89) rfl)) rfl
theorem tw_570 : (Jvm.Cond.code ({ cls := "java/lang/String", name := "checkIndex", desc := "(II)V" } : Jvm.MethodName) prog_15_method_155_code (2 : Nat) (Option.none : Option Jvm.ClassFile.FieldType)) ∈ wG := wg_in (wt_3 (List.mem_of_getElem? (i := 90) rfl)) rfl
theorem tw_571 : (Jvm.Cond.methodLink "java/lang/String" (1059 : Nat) ({ cls := "jdk/internal/util/Preconditions", name := "checkIndex", desc := "(IILjava/util/function/BiFunction;)I" } : Jvm.MethodName)) ∈ wG := wg_in (wt_3 (List.mem_of_getElem? (i := 91) rfl)) rfl
theorem tw_572 : (Jvm.Cond.static ({ cls := "jdk/internal/util/Preconditions", name := "checkIndex", desc := "(IILjava/util/function/BiFunction;)I" } : Jvm.MethodName)) ∈ wG := wg_in (wt_3 (List.mem_of_getElem? (i := 92) rfl)) rfl
theorem tw_573 : (Jvm.Cond.code ({ cls := "jdk/internal/util/Preconditions", name := "checkIndex", desc := "(IILjava/util/function/BiFunction;)I" } : Jvm.MethodName) prog_19_method_11_code (3 : Nat) (Option.some Jvm.ClassFile.FieldType.int)) ∈ wG := wg_in (wt_3 (List.mem_of_getElem? (i := 93) rfl)) rfl
theorem tw_574 : (Jvm.Cond.methodLink "java/lang/String" (498 : Nat) ({ cls := "java/lang/StringUTF16", name := "charAt", desc := "([BI)C" } : Jvm.MethodName)) ∈ wG := wg_in (wt_3 (List.mem_of_getElem? (i := 94) rfl)) rfl
theorem tw_575 : (Jvm.Cond.static ({ cls := "java/lang/StringUTF16", name := "charAt", desc := "([BI)C" } : Jvm.MethodName)) ∈ wG := wg_in (wt_3 (List.mem_of_getElem? (i := 95) rfl)) rfl
theorem tw_576 : (Jvm.Cond.code ({ cls := "java/lang/StringUTF16", name := "charAt", desc := "([BI)C" } : Jvm.MethodName) prog_17_method_83_code (2 : Nat) (Option.some Jvm.ClassFile.FieldType.char)) ∈ wG := wg_in (wt_3 (List.mem_of_getElem? (i := 96) rfl)) rfl
theorem tw_577 : (Jvm.Cond.methodLink "java/lang/StringUTF16" (67 : Nat) ({ cls := "java/lang/StringUTF16", name := "checkIndex", desc := "(I[B)V" } : Jvm.MethodName)) ∈ wG := wg_in (wt_3 (List.mem_of_getElem? (i := 97) rfl)) rfl
theorem tw_578 : (Jvm.Cond.static ({ cls := "java/lang/StringUTF16", name := "checkIndex", desc := "(I[B)V" } : Jvm.MethodName)) ∈ wG := wg_in (wt_3 (List.mem_of_getElem? (i := 98) rfl)) rfl
theorem tw_579 : (Jvm.Cond.code ({ cls := "java/lang/StringUTF16", name := "checkIndex", desc := "(I[B)V" } : Jvm.MethodName) prog_17_method_91_code (2 : Nat) (Option.none : Option Jvm.ClassFile.FieldType)) ∈ wG := wg_in (wt_3 (List.mem_of_getElem? (i := 99) rfl)) rfl
theorem tw_580 : (Jvm.Cond.methodLink "java/lang/StringUTF16" (414 : Nat) ({ cls := "java/lang/String", name := "checkIndex", desc := "(II)V" } : Jvm.MethodName)) ∈ wG := wg_in (wt_3 (List.mem_of_getElem? (i := 100) rfl)) rfl
theorem tw_581 : (Jvm.Cond.methodLink "DeckFront$Statement" (50 : Nat) ({ cls := "DeckFront$Statement", name := "takeDigits", desc := "(II)Z" } : Jvm.MethodName)) ∈ wG := wg_in (wt_3 (List.mem_of_getElem? (i := 101) rfl)) rfl
theorem tw_582 : (Jvm.Cond.sameMethod "DeckFront$Statement" "DeckFront$Tape" "takeDigits" "(II)Z") ∈ wG := wg_in (wt_3 (List.mem_of_getElem? (i := 102) rfl)) rfl
theorem tw_584 : (Jvm.Cond.selects "DeckFront$Statement" ({ cls := "DeckFront$Statement", name := "takeDigits", desc := "(II)Z" } : Jvm.MethodName) ({ cls := "DeckFront$Tape", name := "takeDigits", desc := "(II)Z" } : Jvm.MethodName)) ∈ wG := wg_in (wt_3 (List.mem_of_getElem? (i := 104) rfl)) rfl
theorem tw_585 : (Jvm.Cond.instanceMethod ({ cls := "DeckFront$Tape", name := "takeDigits", desc := "(II)Z" } : Jvm.MethodName)) ∈ wG := wg_in (wt_3 (List.mem_of_getElem? (i := 105) rfl)) rfl
theorem tw_586 : (Jvm.Cond.code ({ cls := "DeckFront$Tape", name := "takeDigits", desc := "(II)Z" } : Jvm.MethodName) prog_6_method_9_code (5 : Nat) (Option.some Jvm.ClassFile.FieldType.boolean)) ∈ wG := wg_in (wt_3 (List.mem_of_getElem? (i := 106) rfl)) rfl
theorem tw_587 : (Jvm.Cond.methodLink "DeckFront$Statement" (53 : Nat) ({ cls := "DeckFront$Statement", name := "takeIdleComma", desc := "()Z" } : Jvm.MethodName)) ∈ wG := wg_in (wt_3 (List.mem_of_getElem? (i := 107) rfl)) rfl
theorem tw_588 : (Jvm.Cond.sameMethod "DeckFront$Statement" "DeckFront$Tape" "takeIdleComma" "()Z") ∈ wG := wg_in (wt_3 (List.mem_of_getElem? (i := 108) rfl)) rfl
theorem tw_590 : (Jvm.Cond.selects "DeckFront$Statement" ({ cls := "DeckFront$Statement", name := "takeIdleComma", desc := "()Z" } : Jvm.MethodName) ({ cls := "DeckFront$Tape", name := "takeIdleComma", desc := "()Z" } : Jvm.MethodName)) ∈ wG := wg_in (wt_3 (List.mem_of_getElem? (i := 110) rfl)) rfl
theorem tw_591 : (Jvm.Cond.instanceMethod ({ cls := "DeckFront$Tape", name := "takeIdleComma", desc := "()Z" } : Jvm.MethodName)) ∈ wG := wg_in (wt_3 (List.mem_of_getElem? (i := 111) rfl)) rfl
theorem tw_592 : (Jvm.Cond.code ({ cls := "DeckFront$Tape", name := "takeIdleComma", desc := "()Z" } : Jvm.MethodName) prog_6_method_8_code (1 : Nat) (Option.some Jvm.ClassFile.FieldType.boolean)) ∈ wG := wg_in (wt_3 (List.mem_of_getElem? (i := 112) rfl)) rfl
theorem tw_593 : (Jvm.Cond.methodLink "DeckFront$Tape" (55 : Nat) ({ cls := "DeckFront$Tape", name := "isNext", desc := "(C)Z" } : Jvm.MethodName)) ∈ wG := wg_in (wt_3 (List.mem_of_getElem? (i := 113) rfl)) rfl
theorem tw_594 : (Jvm.Cond.instanceMethod ({ cls := "DeckFront$Tape", name := "isNext", desc := "(C)Z" } : Jvm.MethodName)) ∈ wG := wg_in (wt_3 (List.mem_of_getElem? (i := 114) rfl)) rfl
theorem tw_595 : (Jvm.Cond.sameMethod "DeckFront$Tape" "DeckFront$Tape" "isNext" "(C)Z") ∈ wG := wg_in (wt_3 (List.mem_of_getElem? (i := 115) rfl)) rfl
theorem tw_596 : (Jvm.Cond.selects "DeckFront$Statement" ({ cls := "DeckFront$Tape", name := "isNext", desc := "(C)Z" } : Jvm.MethodName) ({ cls := "DeckFront$Tape", name := "isNext", desc := "(C)Z" } : Jvm.MethodName)) ∈ wG := wg_in (wt_3 (List.mem_of_getElem? (i := 116) rfl)) rfl
theorem tw_597 : (Jvm.Cond.code ({ cls := "DeckFront$Tape", name := "isNext", desc := "(C)Z" } : Jvm.MethodName) prog_6_method_5_code (2 : Nat) (Option.some Jvm.ClassFile.FieldType.boolean)) ∈ wG := wg_in (wt_3 (List.mem_of_getElem? (i := 117) rfl)) rfl
theorem tw_598 : (Jvm.Cond.methodLink "DeckFront$Statement" (57 : Nat) ({ cls := "DeckFront$Statement", name := "takeName", desc := "(I)Z" } : Jvm.MethodName)) ∈ wG := wg_in (wt_3 (List.mem_of_getElem? (i := 118) rfl)) rfl
theorem tw_599 : (Jvm.Cond.sameMethod "DeckFront$Statement" "DeckFront$Tape" "takeName" "(I)Z") ∈ wG := wg_in (wt_3 (List.mem_of_getElem? (i := 119) rfl)) rfl
theorem tw_601 : (Jvm.Cond.selects "DeckFront$Statement" ({ cls := "DeckFront$Statement", name := "takeName", desc := "(I)Z" } : Jvm.MethodName) ({ cls := "DeckFront$Tape", name := "takeName", desc := "(I)Z" } : Jvm.MethodName)) ∈ wG := wg_in (wt_3 (List.mem_of_getElem? (i := 121) rfl)) rfl
theorem tw_602 : (Jvm.Cond.instanceMethod ({ cls := "DeckFront$Tape", name := "takeName", desc := "(I)Z" } : Jvm.MethodName)) ∈ wG := wg_in (wt_3 (List.mem_of_getElem? (i := 122) rfl)) rfl
theorem tw_603 : (Jvm.Cond.code ({ cls := "DeckFront$Tape", name := "takeName", desc := "(I)Z" } : Jvm.MethodName) prog_6_method_10_code (4 : Nat) (Option.some Jvm.ClassFile.FieldType.boolean)) ∈ wG := wg_in (wt_3 (List.mem_of_getElem? (i := 123) rfl)) rfl
theorem tw_605 : (Jvm.Cond.methodLink "DeckFront$Statement" (31 : Nat) ({ cls := "DeckFront$Statement", name := "expression", desc := "(II)Z" } : Jvm.MethodName)) ∈ wG := wg_in (wt_3 (List.mem_of_getElem? (i := 125) rfl)) rfl
theorem tw_607 : (Jvm.Cond.instanceMethod ({ cls := "DeckFront$Statement", name := "expression", desc := "(II)Z" } : Jvm.MethodName)) ∈ wG := wg_in (wt_3 (List.mem_of_getElem? (i := 127) rfl)) rfl
theorem tw_608 : (Jvm.Cond.code ({ cls := "DeckFront$Statement", name := "expression", desc := "(II)Z" } : Jvm.MethodName) prog_4_method_8_code (7 : Nat) (Option.some Jvm.ClassFile.FieldType.boolean)) ∈ wG := wg_in (wt_3 (List.mem_of_getElem? (i := 128) rfl)) rfl
theorem tw_609 : (Jvm.Cond.methodLink "DeckFront$Statement" (118 : Nat) ({ cls := "DeckFront$Statement", name := "power", desc := "(I)Z" } : Jvm.MethodName)) ∈ wG := wg_in (wt_3 (List.mem_of_getElem? (i := 129) rfl)) rfl
theorem tw_611 : (Jvm.Cond.instanceMethod ({ cls := "DeckFront$Statement", name := "power", desc := "(I)Z" } : Jvm.MethodName)) ∈ wG := wg_in (wt_3 (List.mem_of_getElem? (i := 131) rfl)) rfl
theorem tw_612 : (Jvm.Cond.code ({ cls := "DeckFront$Statement", name := "power", desc := "(I)Z" } : Jvm.MethodName) prog_4_method_11_code (5 : Nat) (Option.some Jvm.ClassFile.FieldType.boolean)) ∈ wG := wg_in (wt_3 (List.mem_of_getElem? (i := 132) rfl)) rfl
theorem tw_613 : (Jvm.Cond.methodLink "DeckFront$Statement" (164 : Nat) ({ cls := "DeckFront$Statement", name := "primary", desc := "(I)Z" } : Jvm.MethodName)) ∈ wG := wg_in (wt_3 (List.mem_of_getElem? (i := 133) rfl)) rfl
theorem tw_615 : (Jvm.Cond.instanceMethod ({ cls := "DeckFront$Statement", name := "primary", desc := "(I)Z" } : Jvm.MethodName)) ∈ wG := wg_in (wt_3 (List.mem_of_getElem? (i := 135) rfl)) rfl
theorem tw_616 : (Jvm.Cond.code ({ cls := "DeckFront$Statement", name := "primary", desc := "(I)Z" } : Jvm.MethodName) prog_4_method_12_code (2 : Nat) (Option.some Jvm.ClassFile.FieldType.boolean)) ∈ wG := wg_in (wt_3 (List.mem_of_getElem? (i := 136) rfl)) rfl
theorem tw_617 : (Jvm.Cond.methodLink "DeckFront$Statement" (169 : Nat) ({ cls := "DeckFront$Statement", name := "takeDecimal", desc := "()Z" } : Jvm.MethodName)) ∈ wG := wg_in (wt_3 (List.mem_of_getElem? (i := 137) rfl)) rfl
theorem tw_618 : (Jvm.Cond.sameMethod "DeckFront$Statement" "DeckFront$Tape" "takeDecimal" "()Z") ∈ wG := wg_in (wt_3 (List.mem_of_getElem? (i := 138) rfl)) rfl
theorem tw_620 : (Jvm.Cond.selects "DeckFront$Statement" ({ cls := "DeckFront$Statement", name := "takeDecimal", desc := "()Z" } : Jvm.MethodName) ({ cls := "DeckFront$Tape", name := "takeDecimal", desc := "()Z" } : Jvm.MethodName)) ∈ wG := wg_in (wt_3 (List.mem_of_getElem? (i := 140) rfl)) rfl
theorem tw_621 : (Jvm.Cond.instanceMethod ({ cls := "DeckFront$Tape", name := "takeDecimal", desc := "()Z" } : Jvm.MethodName)) ∈ wG := wg_in (wt_3 (List.mem_of_getElem? (i := 141) rfl)) rfl
theorem tw_622 : (Jvm.Cond.code ({ cls := "DeckFront$Tape", name := "takeDecimal", desc := "()Z" } : Jvm.MethodName) prog_6_method_12_code (4 : Nat) (Option.some Jvm.ClassFile.FieldType.boolean)) ∈ wG := wg_in (wt_3 (List.mem_of_getElem? (i := 142) rfl)) rfl
theorem tw_623 : (Jvm.Cond.methodLink "DeckFront$Tape" (66 : Nat) ({ cls := "DeckFront$Tape", name := "digitsEnd", desc := "(I)I" } : Jvm.MethodName)) ∈ wG := wg_in (wt_3 (List.mem_of_getElem? (i := 143) rfl)) rfl
theorem tw_625 : (Jvm.Cond.instanceMethod ({ cls := "DeckFront$Tape", name := "digitsEnd", desc := "(I)I" } : Jvm.MethodName)) ∈ wG := wg_in (wt_3 (List.mem_of_getElem? (i := 145) rfl)) rfl
theorem tw_626 : (Jvm.Cond.code ({ cls := "DeckFront$Tape", name := "digitsEnd", desc := "(I)I" } : Jvm.MethodName) prog_6_method_14_code (3 : Nat) (Option.some Jvm.ClassFile.FieldType.int)) ∈ wG := wg_in (wt_3 (List.mem_of_getElem? (i := 146) rfl)) rfl
theorem tw_628 : (Jvm.Cond.methodLink "DeckFront$Tape" (72 : Nat) ({ cls := "DeckFront$Tape", name := "standsLogicalWord", desc := "(I)Z" } : Jvm.MethodName)) ∈ wG := wg_in (wt_3 (List.mem_of_getElem? (i := 148) rfl)) rfl
theorem tw_630 : (Jvm.Cond.instanceMethod ({ cls := "DeckFront$Tape", name := "standsLogicalWord", desc := "(I)Z" } : Jvm.MethodName)) ∈ wG := wg_in (wt_3 (List.mem_of_getElem? (i := 150) rfl)) rfl
theorem tw_631 : (Jvm.Cond.code ({ cls := "DeckFront$Tape", name := "standsLogicalWord", desc := "(I)Z" } : Jvm.MethodName) prog_6_method_15_code (2 : Nat) (Option.some Jvm.ClassFile.FieldType.boolean)) ∈ wG := wg_in (wt_3 (List.mem_of_getElem? (i := 151) rfl)) rfl
theorem tw_643 : (Jvm.Cond.methodLink "DeckFront$Statement" (172 : Nat) ({ cls := "DeckFront$Statement", name := "takeExponent", desc := "()Z" } : Jvm.MethodName)) ∈ wG := wg_in (wt_3 (List.mem_of_getElem? (i := 163) rfl)) rfl
theorem tw_644 : (Jvm.Cond.sameMethod "DeckFront$Statement" "DeckFront$Tape" "takeExponent" "()Z") ∈ wG := wg_in (wt_3 (List.mem_of_getElem? (i := 164) rfl)) rfl
theorem tw_646 : (Jvm.Cond.selects "DeckFront$Statement" ({ cls := "DeckFront$Statement", name := "takeExponent", desc := "()Z" } : Jvm.MethodName) ({ cls := "DeckFront$Tape", name := "takeExponent", desc := "()Z" } : Jvm.MethodName)) ∈ wG := wg_in (wt_3 (List.mem_of_getElem? (i := 166) rfl)) rfl
theorem tw_647 : (Jvm.Cond.instanceMethod ({ cls := "DeckFront$Tape", name := "takeExponent", desc := "()Z" } : Jvm.MethodName)) ∈ wG := wg_in (wt_3 (List.mem_of_getElem? (i := 167) rfl)) rfl
theorem tw_648 : (Jvm.Cond.code ({ cls := "DeckFront$Tape", name := "takeExponent", desc := "()Z" } : Jvm.MethodName) prog_6_method_13_code (3 : Nat) (Option.some Jvm.ClassFile.FieldType.boolean)) ∈ wG := wg_in (wt_3 (List.mem_of_getElem? (i := 168) rfl)) rfl
theorem tw_653 : (Jvm.Cond.methodLink "DeckFront$Statement" (179 : Nat) ({ cls := "DeckFront$Statement", name := "takeQuote", desc := "()Z" } : Jvm.MethodName)) ∈ wG := wg_in (wt_3 (List.mem_of_getElem? (i := 173) rfl)) rfl
theorem tw_654 : (Jvm.Cond.sameMethod "DeckFront$Statement" "DeckFront$Tape" "takeQuote" "()Z") ∈ wG := wg_in (wt_3 (List.mem_of_getElem? (i := 174) rfl)) rfl
theorem tw_656 : (Jvm.Cond.selects "DeckFront$Statement" ({ cls := "DeckFront$Statement", name := "takeQuote", desc := "()Z" } : Jvm.MethodName) ({ cls := "DeckFront$Tape", name := "takeQuote", desc := "()Z" } : Jvm.MethodName)) ∈ wG := wg_in (wt_3 (List.mem_of_getElem? (i := 176) rfl)) rfl
theorem tw_657 : (Jvm.Cond.instanceMethod ({ cls := "DeckFront$Tape", name := "takeQuote", desc := "()Z" } : Jvm.MethodName)) ∈ wG := wg_in (wt_3 (List.mem_of_getElem? (i := 177) rfl)) rfl
theorem tw_658 : (Jvm.Cond.code ({ cls := "DeckFront$Tape", name := "takeQuote", desc := "()Z" } : Jvm.MethodName) prog_6_method_11_code (2 : Nat) (Option.some Jvm.ClassFile.FieldType.boolean)) ∈ wG := wg_in (wt_3 (List.mem_of_getElem? (i := 178) rfl)) rfl
theorem tw_659 : (Jvm.Cond.methodLink "DeckFront$Statement" (82 : Nat) ({ cls := "DeckFront$Statement", name := "isNext", desc := "(C)Z" } : Jvm.MethodName)) ∈ wG := wg_in (wt_3 (List.mem_of_getElem? (i := 179) rfl)) rfl
theorem tw_660 : (Jvm.Cond.sameMethod "DeckFront$Statement" "DeckFront$Tape" "isNext" "(C)Z") ∈ wG := wg_in (wt_3 (List.mem_of_getElem? (i := 180) rfl)) rfl
theorem tw_662 : (Jvm.Cond.selects "DeckFront$Statement" ({ cls := "DeckFront$Statement", name := "isNext", desc := "(C)Z" } : Jvm.MethodName) ({ cls := "DeckFront$Tape", name := "isNext", desc := "(C)Z" } : Jvm.MethodName)) ∈ wG := wg_in (wt_3 (List.mem_of_getElem? (i := 182) rfl)) rfl
theorem tw_663 : (Jvm.Cond.methodLink "DeckFront$Statement" (182 : Nat) ({ cls := "DeckFront$Statement", name := "group", desc := "(I)Z" } : Jvm.MethodName)) ∈ wG := wg_in (wt_3 (List.mem_of_getElem? (i := 183) rfl)) rfl
theorem tw_665 : (Jvm.Cond.instanceMethod ({ cls := "DeckFront$Statement", name := "group", desc := "(I)Z" } : Jvm.MethodName)) ∈ wG := wg_in (wt_3 (List.mem_of_getElem? (i := 185) rfl)) rfl
theorem tw_666 : (Jvm.Cond.code ({ cls := "DeckFront$Statement", name := "group", desc := "(I)Z" } : Jvm.MethodName) prog_4_method_13_code (2 : Nat) (Option.some Jvm.ClassFile.FieldType.boolean)) ∈ wG := wg_in (wt_3 (List.mem_of_getElem? (i := 186) rfl)) rfl
theorem tw_667 : (Jvm.Cond.methodLink "DeckFront$Statement" (64 : Nat) ({ cls := "DeckFront$Statement", name := "reference", desc := "(IZ)Z" } : Jvm.MethodName)) ∈ wG := wg_in (wt_3 (List.mem_of_getElem? (i := 187) rfl)) rfl
theorem tw_669 : (Jvm.Cond.instanceMethod ({ cls := "DeckFront$Statement", name := "reference", desc := "(IZ)Z" } : Jvm.MethodName)) ∈ wG := wg_in (wt_3 (List.mem_of_getElem? (i := 189) rfl)) rfl
theorem tw_670 : (Jvm.Cond.code ({ cls := "DeckFront$Statement", name := "reference", desc := "(IZ)Z" } : Jvm.MethodName) prog_4_method_14_code (4 : Nat) (Option.some Jvm.ClassFile.FieldType.boolean)) ∈ wG := wg_in (wt_3 (List.mem_of_getElem? (i := 190) rfl)) rfl
theorem tw_672 : (Jvm.Cond.methodLink "DeckFront$Statement" (86 : Nat) ({ cls := "DeckFront$Statement", name := "list", desc := "(I)Z" } : Jvm.MethodName)) ∈ wG := wg_in (wt_3 (List.mem_of_getElem? (i := 192) rfl)) rfl
theorem tw_674 : (Jvm.Cond.instanceMethod ({ cls := "DeckFront$Statement", name := "list", desc := "(I)Z" } : Jvm.MethodName)) ∈ wG := wg_in (wt_3 (List.mem_of_getElem? (i := 194) rfl)) rfl
theorem tw_675 : (Jvm.Cond.code ({ cls := "DeckFront$Statement", name := "list", desc := "(I)Z" } : Jvm.MethodName) prog_4_method_15_code (2 : Nat) (Option.some Jvm.ClassFile.FieldType.boolean)) ∈ wG := wg_in (wt_3 (List.mem_of_getElem? (i := 195) rfl)) rfl
theorem tw_677 : (Jvm.Cond.methodLink "DeckFront$Statement" (95 : Nat) ({ cls := "DeckFront$Statement", name := "expressions", desc := "(I)Z" } : Jvm.MethodName)) ∈ wG := wg_in (wt_3 (List.mem_of_getElem? (i := 197) rfl)) rfl
theorem tw_679 : (Jvm.Cond.instanceMethod ({ cls := "DeckFront$Statement", name := "expressions", desc := "(I)Z" } : Jvm.MethodName)) ∈ wG := wg_in (wt_3 (List.mem_of_getElem? (i := 199) rfl)) rfl
theorem tw_680 : (Jvm.Cond.code ({ cls := "DeckFront$Statement", name := "expressions", desc := "(I)Z" } : Jvm.MethodName) prog_4_method_16_code (4 : Nat) (Option.some Jvm.ClassFile.FieldType.boolean)) ∈ wG := wg_in (wt_3 (List.mem_of_getElem? (i := 200) rfl)) rfl
theorem tw_684 : (Jvm.Cond.methodLink "DeckFront$Statement" (124 : Nat) ({ cls := "DeckFront$Statement", name := "close", desc := "(I)V" } : Jvm.MethodName)) ∈ wG := wg_in (wt_3 (List.mem_of_getElem? (i := 204) rfl)) rfl
theorem tw_685 : (Jvm.Cond.sameMethod "DeckFront$Statement" "DeckFront$Tape" "close" "(I)V") ∈ wG := wg_in (wt_3 (List.mem_of_getElem? (i := 205) rfl)) rfl
theorem tw_687 : (Jvm.Cond.selects "DeckFront$Statement" ({ cls := "DeckFront$Statement", name := "close", desc := "(I)V" } : Jvm.MethodName) ({ cls := "DeckFront$Tape", name := "close", desc := "(I)V" } : Jvm.MethodName)) ∈ wG := wg_in (wt_3 (List.mem_of_getElem? (i := 207) rfl)) rfl
theorem tw_688 : (Jvm.Cond.instanceMethod ({ cls := "DeckFront$Tape", name := "close", desc := "(I)V" } : Jvm.MethodName)) ∈ wG := wg_in (wt_3 (List.mem_of_getElem? (i := 208) rfl)) rfl
theorem tw_689 : (Jvm.Cond.code ({ cls := "DeckFront$Tape", name := "close", desc := "(I)V" } : Jvm.MethodName) prog_6_method_16_code (2 : Nat) (Option.none : Option Jvm.ClassFile.FieldType)) ∈ wG := wg_in (wt_3 (List.mem_of_getElem? (i := 209) rfl)) rfl
theorem tw_690 : (Jvm.Cond.methodLink "DeckFront$Statement" (121 : Nat) ({ cls := "DeckFront$Statement", name := "takeSignsBefore", desc := "(I)I" } : Jvm.MethodName)) ∈ wG := wg_in (wt_3 (List.mem_of_getElem? (i := 210) rfl)) rfl
theorem tw_692 : (Jvm.Cond.instanceMethod ({ cls := "DeckFront$Statement", name := "takeSignsBefore", desc := "(I)I" } : Jvm.MethodName)) ∈ wG := wg_in (wt_3 (List.mem_of_getElem? (i := 212) rfl)) rfl
theorem tw_693 : (Jvm.Cond.code ({ cls := "DeckFront$Statement", name := "takeSignsBefore", desc := "(I)I" } : Jvm.MethodName) prog_4_method_9_code (4 : Nat) (Option.some Jvm.ClassFile.FieldType.int)) ∈ wG := wg_in (wt_3 (List.mem_of_getElem? (i := 213) rfl)) rfl
theorem tw_695 : (Jvm.Cond.methodLink "DeckFront$Statement" (136 : Nat) ({ cls := "DeckFront$Statement", name := "stands", desc := "(ILjava/lang/String;)Z" } : Jvm.MethodName)) ∈ wG := wg_in (wt_3 (List.mem_of_getElem? (i := 215) rfl)) rfl
theorem tw_696 : (Jvm.Cond.sameMethod "DeckFront$Statement" "DeckFront$Tape" "stands" "(ILjava/lang/String;)Z") ∈ wG := wg_in (wt_3 (List.mem_of_getElem? (i := 216) rfl)) rfl
theorem tw_698 : (Jvm.Cond.selects "DeckFront$Statement" ({ cls := "DeckFront$Statement", name := "stands", desc := "(ILjava/lang/String;)Z" } : Jvm.MethodName) ({ cls := "DeckFront$Tape", name := "stands", desc := "(ILjava/lang/String;)Z" } : Jvm.MethodName)) ∈ wG := wg_in (wt_3 (List.mem_of_getElem? (i := 218) rfl)) rfl
theorem tw_699 : (Jvm.Cond.methodLink "DeckFront$Statement" (127 : Nat) ({ cls := "DeckFront$Statement", name := "takeSignBetween", desc := "(I)Z" } : Jvm.MethodName)) ∈ wG := wg_in (wt_3 (List.mem_of_getElem? (i := 219) rfl)) rfl
theorem tw_701 : (Jvm.Cond.instanceMethod ({ cls := "DeckFront$Statement", name := "takeSignBetween", desc := "(I)Z" } : Jvm.MethodName)) ∈ wG := wg_in (wt_3 (List.mem_of_getElem? (i := 221) rfl)) rfl
theorem tw_702 : (Jvm.Cond.code ({ cls := "DeckFront$Statement", name := "takeSignBetween", desc := "(I)Z" } : Jvm.MethodName) prog_4_method_10_code (2 : Nat) (Option.some Jvm.ClassFile.FieldType.boolean)) ∈ wG := wg_in (wt_3 (List.mem_of_getElem? (i := 222) rfl)) rfl
theorem tw_730 : (Jvm.Cond.methodLink "DeckFront$Statement" (106 : Nat) ({ cls := "DeckFront$Statement", name := "series", desc := "(I)Z" } : Jvm.MethodName)) ∈ wG := wg_in (wt_4 (List.mem_of_getElem? (i := 10) rfl)) rfl
theorem tw_732 : (Jvm.Cond.instanceMethod ({ cls := "DeckFront$Statement", name := "series", desc := "(I)Z" } : Jvm.MethodName)) ∈ wG := wg_in (wt_4 (List.mem_of_getElem? (i := 12) rfl)) rfl
theorem tw_733 : (Jvm.Cond.code ({ cls := "DeckFront$Statement", name := "series", desc := "(I)Z" } : Jvm.MethodName) prog_4_method_6_code (4 : Nat) (Option.some Jvm.ClassFile.FieldType.boolean)) ∈ wG := wg_in (wt_4 (List.mem_of_getElem? (i := 13) rfl)) rfl
theorem tw_734 : (Jvm.Cond.methodLink "DeckFront$Statement" (113 : Nat) ({ cls := "DeckFront$Statement", name := "item", desc := "(I)Z" } : Jvm.MethodName)) ∈ wG := wg_in (wt_4 (List.mem_of_getElem? (i := 14) rfl)) rfl
theorem tw_736 : (Jvm.Cond.instanceMethod ({ cls := "DeckFront$Statement", name := "item", desc := "(I)Z" } : Jvm.MethodName)) ∈ wG := wg_in (wt_4 (List.mem_of_getElem? (i := 16) rfl)) rfl
theorem tw_737 : (Jvm.Cond.code ({ cls := "DeckFront$Statement", name := "item", desc := "(I)Z" } : Jvm.MethodName) prog_4_method_7_code (2 : Nat) (Option.some Jvm.ClassFile.FieldType.boolean)) ∈ wG := wg_in (wt_4 (List.mem_of_getElem? (i := 17) rfl)) rfl
theorem tw_740 : (Jvm.Cond.methodLink "DeckFront$Statement" (37 : Nat) ({ cls := "DeckFront$Statement", name := "mayStandInIf", desc := "(I)Z" } : Jvm.MethodName)) ∈ wG := wg_in (wt_4 (List.mem_of_getElem? (i := 20) rfl)) rfl
theorem tw_741 : (Jvm.Cond.static ({ cls := "DeckFront$Statement", name := "mayStandInIf", desc := "(I)Z" } : Jvm.MethodName)) ∈ wG := wg_in (wt_4 (List.mem_of_getElem? (i := 21) rfl)) rfl
theorem tw_742 : (Jvm.Cond.code ({ cls := "DeckFront$Statement", name := "mayStandInIf", desc := "(I)Z" } : Jvm.MethodName) prog_4_method_3_code (1 : Nat) (Option.some Jvm.ClassFile.FieldType.boolean)) ∈ wG := wg_in (wt_4 (List.mem_of_getElem? (i := 22) rfl)) rfl
theorem tw_743 : (Jvm.Cond.classLink "DeckFrontLaw" (18 : Nat) "DeckFrontModel") ∈ wG := wg_in (wt_4 (List.mem_of_getElem? (i := 23) rfl)) rfl
theorem tw_744 : (Jvm.Cond.instantiable "DeckFrontModel" (36 : Nat)) ∈ wG := wg_in (wt_4 (List.mem_of_getElem? (i := 24) rfl)) rfl
theorem tw_745 : (Jvm.Cond.methodLink "DeckFrontLaw" (20 : Nat) ({ cls := "DeckFrontModel", name := "<init>", desc := "()V" } : Jvm.MethodName)) ∈ wG := wg_in (wt_4 (List.mem_of_getElem? (i := 25) rfl)) rfl
theorem tw_746 : (Jvm.Cond.instanceMethod ({ cls := "DeckFrontModel", name := "<init>", desc := "()V" } : Jvm.MethodName)) ∈ wG := wg_in (wt_4 (List.mem_of_getElem? (i := 26) rfl)) rfl
theorem tw_747 : (Jvm.Cond.code ({ cls := "DeckFrontModel", name := "<init>", desc := "()V" } : Jvm.MethodName) prog_8_method_1_code (1 : Nat) (Option.none : Option Jvm.ClassFile.FieldType)) ∈ wG := wg_in (wt_4 (List.mem_of_getElem? (i := 27) rfl)) rfl
theorem tw_748 : (Jvm.Cond.methodLink "DeckFrontModel" (1 : Nat) ({ cls := "java/lang/Object", name := "<init>", desc := "()V" } : Jvm.MethodName)) ∈ wG := wg_in (wt_4 (List.mem_of_getElem? (i := 28) rfl)) rfl
theorem tw_749 : (Jvm.Cond.fieldLink "DeckFrontModel" (82 : Nat) "DeckFrontModel" "thrown" "I") ∈ wG := wg_in (wt_4 (List.mem_of_getElem? (i := 29) rfl)) rfl
theorem tw_750 : (Jvm.Cond.fieldLink "DeckFrontModel" (96 : Nat) "DeckFrontModel" "typed" "I") ∈ wG := wg_in (wt_4 (List.mem_of_getElem? (i := 30) rfl)) rfl
theorem tw_751 : (Jvm.Cond.fieldLink "DeckFrontModel" (7 : Nat) "DeckFrontModel" "card" "[C") ∈ wG := wg_in (wt_4 (List.mem_of_getElem? (i := 31) rfl)) rfl
theorem tw_752 : (Jvm.Cond.fieldLink "DeckFrontModel" (99 : Nat) "DeckFrontModel" "statements" "I") ∈ wG := wg_in (wt_4 (List.mem_of_getElem? (i := 32) rfl)) rfl
theorem tw_753 : (Jvm.Cond.fieldLink "DeckFrontModel" (13 : Nat) "DeckFrontModel" "labels" "[I") ∈ wG := wg_in (wt_4 (List.mem_of_getElem? (i := 33) rfl)) rfl
theorem tw_754 : (Jvm.Cond.fieldLink "DeckFrontModel" (17 : Nat) "DeckFrontModel" "sizes" "[I") ∈ wG := wg_in (wt_4 (List.mem_of_getElem? (i := 34) rfl)) rfl
theorem tw_755 : (Jvm.Cond.fieldLink "DeckFrontModel" (20 : Nat) "DeckFrontModel" "texts" "[C") ∈ wG := wg_in (wt_4 (List.mem_of_getElem? (i := 35) rfl)) rfl
theorem tw_756 : (Jvm.Cond.fieldLink "DeckFrontModel" (319 : Nat) "DeckFrontModel" "begin" "I") ∈ wG := wg_in (wt_4 (List.mem_of_getElem? (i := 36) rfl)) rfl
theorem tw_757 : (Jvm.Cond.fieldLink "DeckFrontModel" (116 : Nat) "DeckFrontModel" "end" "I") ∈ wG := wg_in (wt_4 (List.mem_of_getElem? (i := 37) rfl)) rfl
theorem tw_758 : (Jvm.Cond.fieldLink "DeckFrontModel" (126 : Nat) "DeckFrontModel" "p" "I") ∈ wG := wg_in (wt_4 (List.mem_of_getElem? (i := 38) rfl)) rfl
theorem tw_759 : (Jvm.Cond.fieldLink "DeckFrontModel" (119 : Nat) "DeckFrontModel" "shown" "I") ∈ wG := wg_in (wt_4 (List.mem_of_getElem? (i := 39) rfl)) rfl
theorem tw_760 : (Jvm.Cond.fieldLink "DeckFrontModel" (23 : Nat) "DeckFrontModel" "show" "[C") ∈ wG := wg_in (wt_4 (List.mem_of_getElem? (i := 40) rfl)) rfl
theorem tw_761 : (Jvm.Cond.fieldLink "DeckFrontModel" (138 : Nat) "DeckFrontModel" "names" "I") ∈ wG := wg_in (wt_4 (List.mem_of_getElem? (i := 41) rfl)) rfl
theorem tw_762 : (Jvm.Cond.fieldLink "DeckFrontModel" (26 : Nat) "DeckFrontModel" "nameOf" "[J") ∈ wG := wg_in (wt_4 (List.mem_of_getElem? (i := 42) rfl)) rfl
theorem tw_763 : (Jvm.Cond.fieldLink "DeckFrontModel" (30 : Nat) "DeckFrontModel" "useOf" "[I") ∈ wG := wg_in (wt_4 (List.mem_of_getElem? (i := 43) rfl)) rfl
theorem tw_764 : (Jvm.Cond.fieldLink "DeckFrontModel" (33 : Nat) "DeckFrontModel" "typeOf" "[I") ∈ wG := wg_in (wt_4 (List.mem_of_getElem? (i := 44) rfl)) rfl
theorem tw_765 : (Jvm.Cond.fieldLink "DeckFrontModel" (244 : Nat) "DeckFrontModel" "aims" "I") ∈ wG := wg_in (wt_4 (List.mem_of_getElem? (i := 45) rfl)) rfl
theorem tw_766 : (Jvm.Cond.fieldLink "DeckFrontModel" (36 : Nat) "DeckFrontModel" "aim" "[I") ∈ wG := wg_in (wt_4 (List.mem_of_getElem? (i := 46) rfl)) rfl
theorem tw_767 : (Jvm.Cond.fieldLink "DeckFrontModel" (173 : Nat) "DeckFrontModel" "parts" "I") ∈ wG := wg_in (wt_4 (List.mem_of_getElem? (i := 47) rfl)) rfl
theorem tw_768 : (Jvm.Cond.fieldLink "DeckFrontModel" (39 : Nat) "DeckFrontModel" "from" "[I") ∈ wG := wg_in (wt_4 (List.mem_of_getElem? (i := 48) rfl)) rfl
theorem tw_769 : (Jvm.Cond.fieldLink "DeckFrontModel" (42 : Nat) "DeckFrontModel" "to" "[I") ∈ wG := wg_in (wt_4 (List.mem_of_getElem? (i := 49) rfl)) rfl
theorem tw_770 : (Jvm.Cond.fieldLink "DeckFrontModel" (45 : Nat) "DeckFrontModel" "left" "[I") ∈ wG := wg_in (wt_4 (List.mem_of_getElem? (i := 50) rfl)) rfl
theorem tw_771 : (Jvm.Cond.fieldLink "DeckFrontModel" (48 : Nat) "DeckFrontModel" "right" "[I") ∈ wG := wg_in (wt_4 (List.mem_of_getElem? (i := 51) rfl)) rfl
theorem tw_772 : (Jvm.Cond.fieldLink "DeckFrontModel" (51 : Nat) "DeckFrontModel" "next" "[I") ∈ wG := wg_in (wt_4 (List.mem_of_getElem? (i := 52) rfl)) rfl
theorem tw_773 : (Jvm.Cond.fieldLink "DeckFrontModel" (54 : Nat) "DeckFrontModel" "sort" "[I") ∈ wG := wg_in (wt_4 (List.mem_of_getElem? (i := 53) rfl)) rfl
theorem tw_774 : (Jvm.Cond.fieldLink "DeckFrontModel" (176 : Nat) "DeckFrontModel" "values" "I") ∈ wG := wg_in (wt_4 (List.mem_of_getElem? (i := 54) rfl)) rfl
theorem tw_775 : (Jvm.Cond.fieldLink "DeckFrontModel" (57 : Nat) "DeckFrontModel" "pile" "[I") ∈ wG := wg_in (wt_4 (List.mem_of_getElem? (i := 55) rfl)) rfl
theorem tw_776 : (Jvm.Cond.fieldLink "DeckFrontModel" (179 : Nat) "DeckFrontModel" "signs" "I") ∈ wG := wg_in (wt_4 (List.mem_of_getElem? (i := 56) rfl)) rfl
theorem tw_777 : (Jvm.Cond.fieldLink "DeckFrontModel" (60 : Nat) "DeckFrontModel" "binds" "[I") ∈ wG := wg_in (wt_4 (List.mem_of_getElem? (i := 57) rfl)) rfl
theorem tw_778 : (Jvm.Cond.fieldLink "DeckFrontModel" (63 : Nat) "DeckFrontModel" "signFrom" "[I") ∈ wG := wg_in (wt_4 (List.mem_of_getElem? (i := 58) rfl)) rfl
theorem tw_779 : (Jvm.Cond.fieldLink "DeckFrontModel" (66 : Nat) "DeckFrontModel" "signTo" "[I") ∈ wG := wg_in (wt_4 (List.mem_of_getElem? (i := 59) rfl)) rfl
theorem tw_780 : (Jvm.Cond.fieldLink "DeckFrontModel" (69 : Nat) "DeckFrontModel" "before" "[Z") ∈ wG := wg_in (wt_4 (List.mem_of_getElem? (i := 60) rfl)) rfl
theorem tw_781 : (Jvm.Cond.fieldLink "DeckFrontModel" (73 : Nat) "DeckFrontModel" "writes" "[I") ∈ wG := wg_in (wt_4 (List.mem_of_getElem? (i := 61) rfl)) rfl
theorem tw_782 : (Jvm.Cond.fieldLink "DeckFrontModel" (336 : Nat) "DeckFrontModel" "open" "I") ∈ wG := wg_in (wt_4 (List.mem_of_getElem? (i := 62) rfl)) rfl
theorem tw_783 : (Jvm.Cond.fieldLink "DeckFrontModel" (76 : Nat) "DeckFrontModel" "opened" "[I") ∈ wG := wg_in (wt_4 (List.mem_of_getElem? (i := 63) rfl)) rfl
theorem tw_784 : (Jvm.Cond.fieldLink "DeckFrontModel" (79 : Nat) "DeckFrontModel" "hadElse" "[Z") ∈ wG := wg_in (wt_4 (List.mem_of_getElem? (i := 64) rfl)) rfl
theorem tw_785 : (Jvm.Cond.lays "DeckFrontModel" "DeckFrontModel" "thrown" "I") ∈ wG := wg_in (wt_4 (List.mem_of_getElem? (i := 65) rfl)) rfl
theorem tw_787 : (Jvm.Cond.lays "DeckFrontModel" "DeckFrontModel" "typed" "I") ∈ wG := wg_in (wt_4 (List.mem_of_getElem? (i := 67) rfl)) rfl
theorem tw_789 : (Jvm.Cond.laysFinal "DeckFrontModel" "DeckFrontModel" "card" "[C") ∈ wG := wg_in (wt_4 (List.mem_of_getElem? (i := 69) rfl)) rfl
theorem tw_791 : (Jvm.Cond.lays "DeckFrontModel" "DeckFrontModel" "statements" "I") ∈ wG := wg_in (wt_4 (List.mem_of_getElem? (i := 71) rfl)) rfl
theorem tw_793 : (Jvm.Cond.laysFinal "DeckFrontModel" "DeckFrontModel" "labels" "[I") ∈ wG := wg_in (wt_4 (List.mem_of_getElem? (i := 73) rfl)) rfl
theorem tw_795 : (Jvm.Cond.laysFinal "DeckFrontModel" "DeckFrontModel" "sizes" "[I") ∈ wG := wg_in (wt_4 (List.mem_of_getElem? (i := 75) rfl)) rfl
theorem tw_797 : (Jvm.Cond.laysFinal "DeckFrontModel" "DeckFrontModel" "texts" "[C") ∈ wG := wg_in (wt_4 (List.mem_of_getElem? (i := 77) rfl)) rfl
theorem tw_799 : (Jvm.Cond.lays "DeckFrontModel" "DeckFrontModel" "begin" "I") ∈ wG := wg_in (wt_4 (List.mem_of_getElem? (i := 79) rfl)) rfl
theorem tw_801 : (Jvm.Cond.lays "DeckFrontModel" "DeckFrontModel" "end" "I") ∈ wG := wg_in (wt_4 (List.mem_of_getElem? (i := 81) rfl)) rfl
theorem tw_803 : (Jvm.Cond.lays "DeckFrontModel" "DeckFrontModel" "p" "I") ∈ wG := wg_in (wt_4 (List.mem_of_getElem? (i := 83) rfl)) rfl
theorem tw_805 : (Jvm.Cond.lays "DeckFrontModel" "DeckFrontModel" "shown" "I") ∈ wG := wg_in (wt_4 (List.mem_of_getElem? (i := 85) rfl)) rfl
theorem tw_807 : (Jvm.Cond.laysFinal "DeckFrontModel" "DeckFrontModel" "show" "[C") ∈ wG := wg_in (wt_4 (List.mem_of_getElem? (i := 87) rfl)) rfl
theorem tw_809 : (Jvm.Cond.lays "DeckFrontModel" "DeckFrontModel" "names" "I") ∈ wG := wg_in (wt_4 (List.mem_of_getElem? (i := 89) rfl)) rfl
theorem tw_811 : (Jvm.Cond.laysFinal "DeckFrontModel" "DeckFrontModel" "nameOf" "[J") ∈ wG := wg_in (wt_4 (List.mem_of_getElem? (i := 91) rfl)) rfl
theorem tw_813 : (Jvm.Cond.laysFinal "DeckFrontModel" "DeckFrontModel" "useOf" "[I") ∈ wG := wg_in (wt_4 (List.mem_of_getElem? (i := 93) rfl)) rfl
theorem tw_815 : (Jvm.Cond.laysFinal "DeckFrontModel" "DeckFrontModel" "typeOf" "[I") ∈ wG := wg_in (wt_4 (List.mem_of_getElem? (i := 95) rfl)) rfl
theorem tw_817 : (Jvm.Cond.lays "DeckFrontModel" "DeckFrontModel" "aims" "I") ∈ wG := wg_in (wt_4 (List.mem_of_getElem? (i := 97) rfl)) rfl
theorem tw_819 : (Jvm.Cond.laysFinal "DeckFrontModel" "DeckFrontModel" "aim" "[I") ∈ wG := wg_in (wt_4 (List.mem_of_getElem? (i := 99) rfl)) rfl
theorem tw_821 : (Jvm.Cond.lays "DeckFrontModel" "DeckFrontModel" "parts" "I") ∈ wG := wg_in (wt_4 (List.mem_of_getElem? (i := 101) rfl)) rfl
theorem tw_823 : (Jvm.Cond.laysFinal "DeckFrontModel" "DeckFrontModel" "from" "[I") ∈ wG := wg_in (wt_4 (List.mem_of_getElem? (i := 103) rfl)) rfl
theorem tw_825 : (Jvm.Cond.laysFinal "DeckFrontModel" "DeckFrontModel" "to" "[I") ∈ wG := wg_in (wt_4 (List.mem_of_getElem? (i := 105) rfl)) rfl
theorem tw_827 : (Jvm.Cond.laysFinal "DeckFrontModel" "DeckFrontModel" "left" "[I") ∈ wG := wg_in (wt_4 (List.mem_of_getElem? (i := 107) rfl)) rfl
theorem tw_829 : (Jvm.Cond.laysFinal "DeckFrontModel" "DeckFrontModel" "right" "[I") ∈ wG := wg_in (wt_4 (List.mem_of_getElem? (i := 109) rfl)) rfl
theorem tw_831 : (Jvm.Cond.laysFinal "DeckFrontModel" "DeckFrontModel" "next" "[I") ∈ wG := wg_in (wt_4 (List.mem_of_getElem? (i := 111) rfl)) rfl
theorem tw_833 : (Jvm.Cond.laysFinal "DeckFrontModel" "DeckFrontModel" "sort" "[I") ∈ wG := wg_in (wt_4 (List.mem_of_getElem? (i := 113) rfl)) rfl
theorem tw_835 : (Jvm.Cond.lays "DeckFrontModel" "DeckFrontModel" "values" "I") ∈ wG := wg_in (wt_4 (List.mem_of_getElem? (i := 115) rfl)) rfl
theorem tw_837 : (Jvm.Cond.laysFinal "DeckFrontModel" "DeckFrontModel" "pile" "[I") ∈ wG := wg_in (wt_4 (List.mem_of_getElem? (i := 117) rfl)) rfl
theorem tw_839 : (Jvm.Cond.lays "DeckFrontModel" "DeckFrontModel" "signs" "I") ∈ wG := wg_in (wt_4 (List.mem_of_getElem? (i := 119) rfl)) rfl
theorem tw_841 : (Jvm.Cond.laysFinal "DeckFrontModel" "DeckFrontModel" "binds" "[I") ∈ wG := wg_in (wt_4 (List.mem_of_getElem? (i := 121) rfl)) rfl
theorem tw_843 : (Jvm.Cond.laysFinal "DeckFrontModel" "DeckFrontModel" "signFrom" "[I") ∈ wG := wg_in (wt_4 (List.mem_of_getElem? (i := 123) rfl)) rfl
theorem tw_845 : (Jvm.Cond.laysFinal "DeckFrontModel" "DeckFrontModel" "signTo" "[I") ∈ wG := wg_in (wt_4 (List.mem_of_getElem? (i := 125) rfl)) rfl
theorem tw_847 : (Jvm.Cond.laysFinal "DeckFrontModel" "DeckFrontModel" "before" "[Z") ∈ wG := wg_in (wt_4 (List.mem_of_getElem? (i := 127) rfl)) rfl
theorem tw_849 : (Jvm.Cond.laysFinal "DeckFrontModel" "DeckFrontModel" "writes" "[I") ∈ wG := wg_in (wt_4 (List.mem_of_getElem? (i := 129) rfl)) rfl
theorem tw_851 : (Jvm.Cond.lays "DeckFrontModel" "DeckFrontModel" "open" "I") ∈ wG := wg_in (wt_4 (List.mem_of_getElem? (i := 131) rfl)) rfl
theorem tw_853 : (Jvm.Cond.laysFinal "DeckFrontModel" "DeckFrontModel" "opened" "[I") ∈ wG := wg_in (wt_4 (List.mem_of_getElem? (i := 133) rfl)) rfl
theorem tw_855 : (Jvm.Cond.laysFinal "DeckFrontModel" "DeckFrontModel" "hadElse" "[Z") ∈ wG := wg_in (wt_4 (List.mem_of_getElem? (i := 135) rfl)) rfl
theorem tw_858 : (Jvm.Cond.arrayClass Jvm.ClassFile.FieldType.long) ∈ wG := wg_in (wt_4 (List.mem_of_getElem? (i := 138) rfl)) rfl
theorem tw_859 : (Jvm.Cond.arrayClass Jvm.ClassFile.FieldType.boolean) ∈ wG := wg_in (wt_4 (List.mem_of_getElem? (i := 139) rfl)) rfl
theorem tw_860 : (Jvm.Cond.methodLink "DeckFrontLaw" (34 : Nat) ({ cls := "DeckFrontModel", name := "thrown", desc := "()I" } : Jvm.MethodName)) ∈ wG := wg_in (wt_4 (List.mem_of_getElem? (i := 140) rfl)) rfl
theorem tw_861 : (Jvm.Cond.instanceMethod ({ cls := "DeckFrontModel", name := "thrown", desc := "()I" } : Jvm.MethodName)) ∈ wG := wg_in (wt_4 (List.mem_of_getElem? (i := 141) rfl)) rfl
theorem tw_862 : (Jvm.Cond.selects "DeckFrontModel" ({ cls := "DeckFrontModel", name := "thrown", desc := "()I" } : Jvm.MethodName) ({ cls := "DeckFrontModel", name := "thrown", desc := "()I" } : Jvm.MethodName)) ∈ wG := wg_in (wt_4 (List.mem_of_getElem? (i := 142) rfl)) rfl
theorem tw_863 : (Jvm.Cond.code ({ cls := "DeckFrontModel", name := "thrown", desc := "()I" } : Jvm.MethodName) prog_8_method_2_code (1 : Nat) (Option.some Jvm.ClassFile.FieldType.int)) ∈ wG := wg_in (wt_4 (List.mem_of_getElem? (i := 143) rfl)) rfl
theorem tw_864 : (Jvm.Cond.methodLink "DeckFrontLaw" (27 : Nat) ({ cls := "DeckFrontModel", name := "write", desc := "(J)Z" } : Jvm.MethodName)) ∈ wG := wg_in (wt_4 (List.mem_of_getElem? (i := 144) rfl)) rfl
theorem tw_865 : (Jvm.Cond.instanceMethod ({ cls := "DeckFrontModel", name := "write", desc := "(J)Z" } : Jvm.MethodName)) ∈ wG := wg_in (wt_4 (List.mem_of_getElem? (i := 145) rfl)) rfl
theorem tw_866 : (Jvm.Cond.selects "DeckFrontModel" ({ cls := "DeckFrontModel", name := "write", desc := "(J)Z" } : Jvm.MethodName) ({ cls := "DeckFrontModel", name := "write", desc := "(J)Z" } : Jvm.MethodName)) ∈ wG := wg_in (wt_4 (List.mem_of_getElem? (i := 146) rfl)) rfl
theorem tw_867 : (Jvm.Cond.code ({ cls := "DeckFrontModel", name := "write", desc := "(J)Z" } : Jvm.MethodName) prog_8_method_6_code (6 : Nat) (Option.some Jvm.ClassFile.FieldType.boolean)) ∈ wG := wg_in (wt_4 (List.mem_of_getElem? (i := 147) rfl)) rfl
theorem tw_868 : (Jvm.Cond.methodLink "DeckFrontModel" (93 : Nat) ({ cls := "DeckFrontModel", name := "mayStand", desc := "(I)Z" } : Jvm.MethodName)) ∈ wG := wg_in (wt_4 (List.mem_of_getElem? (i := 148) rfl)) rfl
theorem tw_869 : (Jvm.Cond.static ({ cls := "DeckFrontModel", name := "mayStand", desc := "(I)Z" } : Jvm.MethodName)) ∈ wG := wg_in (wt_4 (List.mem_of_getElem? (i := 149) rfl)) rfl
theorem tw_870 : (Jvm.Cond.code ({ cls := "DeckFrontModel", name := "mayStand", desc := "(I)Z" } : Jvm.MethodName) prog_8_method_5_code (1 : Nat) (Option.some Jvm.ClassFile.FieldType.boolean)) ∈ wG := wg_in (wt_4 (List.mem_of_getElem? (i := 150) rfl)) rfl
theorem tw_871 : (Jvm.Cond.methodLink "DeckFrontModel" (86 : Nat) ({ cls := "DeckFrontModel", name := "isLetter", desc := "(I)Z" } : Jvm.MethodName)) ∈ wG := wg_in (wt_4 (List.mem_of_getElem? (i := 151) rfl)) rfl
theorem tw_872 : (Jvm.Cond.static ({ cls := "DeckFrontModel", name := "isLetter", desc := "(I)Z" } : Jvm.MethodName)) ∈ wG := wg_in (wt_4 (List.mem_of_getElem? (i := 152) rfl)) rfl
theorem tw_873 : (Jvm.Cond.code ({ cls := "DeckFrontModel", name := "isLetter", desc := "(I)Z" } : Jvm.MethodName) prog_8_method_3_code (1 : Nat) (Option.some Jvm.ClassFile.FieldType.boolean)) ∈ wG := wg_in (wt_4 (List.mem_of_getElem? (i := 153) rfl)) rfl
theorem tw_874 : (Jvm.Cond.methodLink "DeckFrontModel" (90 : Nat) ({ cls := "DeckFrontModel", name := "isDigit", desc := "(I)Z" } : Jvm.MethodName)) ∈ wG := wg_in (wt_4 (List.mem_of_getElem? (i := 154) rfl)) rfl
theorem tw_875 : (Jvm.Cond.static ({ cls := "DeckFrontModel", name := "isDigit", desc := "(I)Z" } : Jvm.MethodName)) ∈ wG := wg_in (wt_4 (List.mem_of_getElem? (i := 155) rfl)) rfl
theorem tw_876 : (Jvm.Cond.code ({ cls := "DeckFrontModel", name := "isDigit", desc := "(I)Z" } : Jvm.MethodName) prog_8_method_4_code (1 : Nat) (Option.some Jvm.ClassFile.FieldType.boolean)) ∈ wG := wg_in (wt_4 (List.mem_of_getElem? (i := 156) rfl)) rfl
theorem tw_877 : (Jvm.Cond.methodLink "DeckFrontLaw" (33 : Nat) ({ cls := "DeckFrontModel", name := "card", desc := "()I" } : Jvm.MethodName)) ∈ wG := wg_in (wt_4 (List.mem_of_getElem? (i := 157) rfl)) rfl
theorem tw_878 : (Jvm.Cond.instanceMethod ({ cls := "DeckFrontModel", name := "card", desc := "()I" } : Jvm.MethodName)) ∈ wG := wg_in (wt_4 (List.mem_of_getElem? (i := 158) rfl)) rfl
theorem tw_879 : (Jvm.Cond.selects "DeckFrontModel" ({ cls := "DeckFrontModel", name := "card", desc := "()I" } : Jvm.MethodName) ({ cls := "DeckFrontModel", name := "card", desc := "()I" } : Jvm.MethodName)) ∈ wG := wg_in (wt_4 (List.mem_of_getElem? (i := 159) rfl)) rfl
theorem tw_880 : (Jvm.Cond.code ({ cls := "DeckFrontModel", name := "card", desc := "()I" } : Jvm.MethodName) prog_8_method_10_code (3 : Nat) (Option.some Jvm.ClassFile.FieldType.int)) ∈ wG := wg_in (wt_4 (List.mem_of_getElem? (i := 160) rfl)) rfl
theorem tw_881 : (Jvm.Cond.methodLink "DeckFrontModel" (105 : Nat) ({ cls := "DeckFrontModel", name := "isComment", desc := "()Z" } : Jvm.MethodName)) ∈ wG := wg_in (wt_4 (List.mem_of_getElem? (i := 161) rfl)) rfl
theorem tw_883 : (Jvm.Cond.instanceMethod ({ cls := "DeckFrontModel", name := "isComment", desc := "()Z" } : Jvm.MethodName)) ∈ wG := wg_in (wt_4 (List.mem_of_getElem? (i := 163) rfl)) rfl
theorem tw_884 : (Jvm.Cond.code ({ cls := "DeckFrontModel", name := "isComment", desc := "()Z" } : Jvm.MethodName) prog_8_method_7_code (3 : Nat) (Option.some Jvm.ClassFile.FieldType.boolean)) ∈ wG := wg_in (wt_4 (List.mem_of_getElem? (i := 164) rfl)) rfl
theorem tw_885 : (Jvm.Cond.methodLink "DeckFrontModel" (109 : Nat) ({ cls := "DeckFrontModel", name := "joined", desc := "(I)I" } : Jvm.MethodName)) ∈ wG := wg_in (wt_4 (List.mem_of_getElem? (i := 165) rfl)) rfl
theorem tw_887 : (Jvm.Cond.instanceMethod ({ cls := "DeckFrontModel", name := "joined", desc := "(I)I" } : Jvm.MethodName)) ∈ wG := wg_in (wt_4 (List.mem_of_getElem? (i := 167) rfl)) rfl
theorem tw_888 : (Jvm.Cond.code ({ cls := "DeckFrontModel", name := "joined", desc := "(I)I" } : Jvm.MethodName) prog_8_method_9_code (10 : Nat) (Option.some Jvm.ClassFile.FieldType.int)) ∈ wG := wg_in (wt_4 (List.mem_of_getElem? (i := 168) rfl)) rfl
theorem tw_889 : (Jvm.Cond.methodLink "DeckFrontModel" (102 : Nat) ({ cls := "DeckFrontModel", name := "inQuote", desc := "(I)Z" } : Jvm.MethodName)) ∈ wG := wg_in (wt_4 (List.mem_of_getElem? (i := 169) rfl)) rfl
theorem tw_891 : (Jvm.Cond.instanceMethod ({ cls := "DeckFrontModel", name := "inQuote", desc := "(I)Z" } : Jvm.MethodName)) ∈ wG := wg_in (wt_4 (List.mem_of_getElem? (i := 171) rfl)) rfl
theorem tw_892 : (Jvm.Cond.code ({ cls := "DeckFrontModel", name := "inQuote", desc := "(I)Z" } : Jvm.MethodName) prog_8_method_8_code (4 : Nat) (Option.some Jvm.ClassFile.FieldType.boolean)) ∈ wG := wg_in (wt_4 (List.mem_of_getElem? (i := 172) rfl)) rfl
theorem tw_893 : (Jvm.Cond.methodLink "DeckFrontLaw" (40 : Nat) ({ cls := "DeckFrontModel", name := "clear", desc := "()V" } : Jvm.MethodName)) ∈ wG := wg_in (wt_4 (List.mem_of_getElem? (i := 173) rfl)) rfl
theorem tw_894 : (Jvm.Cond.instanceMethod ({ cls := "DeckFrontModel", name := "clear", desc := "()V" } : Jvm.MethodName)) ∈ wG := wg_in (wt_4 (List.mem_of_getElem? (i := 174) rfl)) rfl
theorem tw_895 : (Jvm.Cond.selects "DeckFrontModel" ({ cls := "DeckFrontModel", name := "clear", desc := "()V" } : Jvm.MethodName) ({ cls := "DeckFrontModel", name := "clear", desc := "()V" } : Jvm.MethodName)) ∈ wG := wg_in (wt_4 (List.mem_of_getElem? (i := 175) rfl)) rfl
theorem tw_896 : (Jvm.Cond.code ({ cls := "DeckFrontModel", name := "clear", desc := "()V" } : Jvm.MethodName) prog_8_method_11_code (1 : Nat) (Option.none : Option Jvm.ClassFile.FieldType)) ∈ wG := wg_in (wt_4 (List.mem_of_getElem? (i := 176) rfl)) rfl
theorem tw_897 : (Jvm.Cond.methodLink "DeckFrontLaw" (44 : Nat) ({ cls := "DeckFrontModel", name := "statements", desc := "()I" } : Jvm.MethodName)) ∈ wG := wg_in (wt_4 (List.mem_of_getElem? (i := 177) rfl)) rfl
theorem tw_898 : (Jvm.Cond.instanceMethod ({ cls := "DeckFrontModel", name := "statements", desc := "()I" } : Jvm.MethodName)) ∈ wG := wg_in (wt_4 (List.mem_of_getElem? (i := 178) rfl)) rfl
theorem tw_899 : (Jvm.Cond.selects "DeckFrontModel" ({ cls := "DeckFrontModel", name := "statements", desc := "()I" } : Jvm.MethodName) ({ cls := "DeckFrontModel", name := "statements", desc := "()I" } : Jvm.MethodName)) ∈ wG := wg_in (wt_4 (List.mem_of_getElem? (i := 179) rfl)) rfl
theorem tw_900 : (Jvm.Cond.code ({ cls := "DeckFrontModel", name := "statements", desc := "()I" } : Jvm.MethodName) prog_8_method_12_code (1 : Nat) (Option.some Jvm.ClassFile.FieldType.int)) ∈ wG := wg_in (wt_4 (List.mem_of_getElem? (i := 180) rfl)) rfl
theorem tw_901 : (Jvm.Cond.methodLink "DeckFrontLaw" (49 : Nat) ({ cls := "DeckFrontModel", name := "label", desc := "(I)I" } : Jvm.MethodName)) ∈ wG := wg_in (wt_4 (List.mem_of_getElem? (i := 181) rfl)) rfl
theorem tw_902 : (Jvm.Cond.instanceMethod ({ cls := "DeckFrontModel", name := "label", desc := "(I)I" } : Jvm.MethodName)) ∈ wG := wg_in (wt_4 (List.mem_of_getElem? (i := 182) rfl)) rfl
theorem tw_903 : (Jvm.Cond.selects "DeckFrontModel" ({ cls := "DeckFrontModel", name := "label", desc := "(I)I" } : Jvm.MethodName) ({ cls := "DeckFrontModel", name := "label", desc := "(I)I" } : Jvm.MethodName)) ∈ wG := wg_in (wt_4 (List.mem_of_getElem? (i := 183) rfl)) rfl
theorem tw_904 : (Jvm.Cond.code ({ cls := "DeckFrontModel", name := "label", desc := "(I)I" } : Jvm.MethodName) prog_8_method_14_code (2 : Nat) (Option.some Jvm.ClassFile.FieldType.int)) ∈ wG := wg_in (wt_4 (List.mem_of_getElem? (i := 184) rfl)) rfl
theorem tw_905 : (Jvm.Cond.methodLink "DeckFrontModel" (113 : Nat) ({ cls := "DeckFrontModel", name := "there", desc := "(I)Z" } : Jvm.MethodName)) ∈ wG := wg_in (wt_4 (List.mem_of_getElem? (i := 185) rfl)) rfl
theorem tw_907 : (Jvm.Cond.instanceMethod ({ cls := "DeckFrontModel", name := "there", desc := "(I)Z" } : Jvm.MethodName)) ∈ wG := wg_in (wt_4 (List.mem_of_getElem? (i := 187) rfl)) rfl
theorem tw_908 : (Jvm.Cond.code ({ cls := "DeckFrontModel", name := "there", desc := "(I)Z" } : Jvm.MethodName) prog_8_method_13_code (2 : Nat) (Option.some Jvm.ClassFile.FieldType.boolean)) ∈ wG := wg_in (wt_4 (List.mem_of_getElem? (i := 188) rfl)) rfl
theorem tw_909 : (Jvm.Cond.methodLink "DeckFrontLaw" (53 : Nat) ({ cls := "DeckFrontModel", name := "what", desc := "(I)I" } : Jvm.MethodName)) ∈ wG := wg_in (wt_4 (List.mem_of_getElem? (i := 189) rfl)) rfl
theorem tw_910 : (Jvm.Cond.instanceMethod ({ cls := "DeckFrontModel", name := "what", desc := "(I)I" } : Jvm.MethodName)) ∈ wG := wg_in (wt_4 (List.mem_of_getElem? (i := 190) rfl)) rfl
theorem tw_911 : (Jvm.Cond.selects "DeckFrontModel" ({ cls := "DeckFrontModel", name := "what", desc := "(I)I" } : Jvm.MethodName) ({ cls := "DeckFrontModel", name := "what", desc := "(I)I" } : Jvm.MethodName)) ∈ wG := wg_in (wt_4 (List.mem_of_getElem? (i := 191) rfl)) rfl
theorem tw_912 : (Jvm.Cond.code ({ cls := "DeckFrontModel", name := "what", desc := "(I)I" } : Jvm.MethodName) prog_8_method_54_code (2 : Nat) (Option.some Jvm.ClassFile.FieldType.int)) ∈ wG := wg_in (wt_4 (List.mem_of_getElem? (i := 192) rfl)) rfl
theorem tw_913 : (Jvm.Cond.methodLink "DeckFrontModel" (325 : Nat) ({ cls := "DeckFrontModel", name := "read", desc := "(I)I" } : Jvm.MethodName)) ∈ wG := wg_in (wt_4 (List.mem_of_getElem? (i := 193) rfl)) rfl
theorem tw_915 : (Jvm.Cond.instanceMethod ({ cls := "DeckFrontModel", name := "read", desc := "(I)I" } : Jvm.MethodName)) ∈ wG := wg_in (wt_4 (List.mem_of_getElem? (i := 195) rfl)) rfl
theorem tw_916 : (Jvm.Cond.code ({ cls := "DeckFrontModel", name := "read", desc := "(I)I" } : Jvm.MethodName) prog_8_method_53_code (3 : Nat) (Option.some Jvm.ClassFile.FieldType.int)) ∈ wG := wg_in (wt_4 (List.mem_of_getElem? (i := 196) rfl)) rfl
theorem tw_917 : (Jvm.Cond.methodLink "DeckFrontModel" (322 : Nat) ({ cls := "DeckFrontModel", name := "isIf", desc := "()Z" } : Jvm.MethodName)) ∈ wG := wg_in (wt_4 (List.mem_of_getElem? (i := 197) rfl)) rfl
theorem tw_919 : (Jvm.Cond.instanceMethod ({ cls := "DeckFrontModel", name := "isIf", desc := "()Z" } : Jvm.MethodName)) ∈ wG := wg_in (wt_4 (List.mem_of_getElem? (i := 199) rfl)) rfl
theorem tw_920 : (Jvm.Cond.code ({ cls := "DeckFrontModel", name := "isIf", desc := "()Z" } : Jvm.MethodName) prog_8_method_52_code (1 : Nat) (Option.some Jvm.ClassFile.FieldType.boolean)) ∈ wG := wg_in (wt_4 (List.mem_of_getElem? (i := 200) rfl)) rfl
theorem tw_921 : (Jvm.Cond.constantLong "DeckFrontModel" (270 : Nat) (4802088 : Int64)) ∈ wG := wg_in (wt_4 (List.mem_of_getElem? (i := 201) rfl)) rfl
theorem tw_922 : (Jvm.Cond.methodLink "DeckFrontModel" (234 : Nat) ({ cls := "DeckFrontModel", name := "word", desc := "(J)Z" } : Jvm.MethodName)) ∈ wG := wg_in (wt_4 (List.mem_of_getElem? (i := 202) rfl)) rfl
theorem tw_924 : (Jvm.Cond.instanceMethod ({ cls := "DeckFrontModel", name := "word", desc := "(J)Z" } : Jvm.MethodName)) ∈ wG := wg_in (wt_4 (List.mem_of_getElem? (i := 204) rfl)) rfl
theorem tw_925 : (Jvm.Cond.code ({ cls := "DeckFrontModel", name := "word", desc := "(J)Z" } : Jvm.MethodName) prog_8_method_18_code (5 : Nat) (Option.some Jvm.ClassFile.FieldType.boolean)) ∈ wG := wg_in (wt_4 (List.mem_of_getElem? (i := 205) rfl)) rfl
theorem tw_926 : (Jvm.Cond.methodLink "DeckFrontModel" (129 : Nat) ({ cls := "DeckFrontModel", name := "at", desc := "(I)I" } : Jvm.MethodName)) ∈ wG := wg_in (wt_4 (List.mem_of_getElem? (i := 206) rfl)) rfl
theorem tw_928 : (Jvm.Cond.instanceMethod ({ cls := "DeckFrontModel", name := "at", desc := "(I)I" } : Jvm.MethodName)) ∈ wG := wg_in (wt_4 (List.mem_of_getElem? (i := 208) rfl)) rfl
theorem tw_929 : (Jvm.Cond.code ({ cls := "DeckFrontModel", name := "at", desc := "(I)I" } : Jvm.MethodName) prog_8_method_15_code (2 : Nat) (Option.some Jvm.ClassFile.FieldType.int)) ∈ wG := wg_in (wt_4 (List.mem_of_getElem? (i := 209) rfl)) rfl
theorem tw_930 : (Jvm.Cond.constantLong "DeckFrontModel" (132 : Nat) (255 : Int64)) ∈ wG := wg_in (wt_4 (List.mem_of_getElem? (i := 210) rfl)) rfl
theorem tw_931 : (Jvm.Cond.methodLink "DeckFrontModel" (134 : Nat) ({ cls := "DeckFrontModel", name := "putPart", desc := "(II)V" } : Jvm.MethodName)) ∈ wG := wg_in (wt_4 (List.mem_of_getElem? (i := 211) rfl)) rfl
theorem tw_933 : (Jvm.Cond.instanceMethod ({ cls := "DeckFrontModel", name := "putPart", desc := "(II)V" } : Jvm.MethodName)) ∈ wG := wg_in (wt_4 (List.mem_of_getElem? (i := 213) rfl)) rfl
theorem tw_934 : (Jvm.Cond.code ({ cls := "DeckFrontModel", name := "putPart", desc := "(II)V" } : Jvm.MethodName) prog_8_method_17_code (4 : Nat) (Option.none : Option Jvm.ClassFile.FieldType)) ∈ wG := wg_in (wt_4 (List.mem_of_getElem? (i := 214) rfl)) rfl
theorem tw_935 : (Jvm.Cond.methodLink "DeckFrontModel" (122 : Nat) ({ cls := "DeckFrontModel", name := "put", desc := "(I)V" } : Jvm.MethodName)) ∈ wG := wg_in (wt_4 (List.mem_of_getElem? (i := 215) rfl)) rfl
theorem tw_937 : (Jvm.Cond.instanceMethod ({ cls := "DeckFrontModel", name := "put", desc := "(I)V" } : Jvm.MethodName)) ∈ wG := wg_in (wt_4 (List.mem_of_getElem? (i := 217) rfl)) rfl
theorem tw_938 : (Jvm.Cond.code ({ cls := "DeckFrontModel", name := "put", desc := "(I)V" } : Jvm.MethodName) prog_8_method_16_code (2 : Nat) (Option.none : Option Jvm.ClassFile.FieldType)) ∈ wG := wg_in (wt_4 (List.mem_of_getElem? (i := 218) rfl)) rfl
theorem tw_939 : (Jvm.Cond.methodLink "DeckFrontModel" (219 : Nat) ({ cls := "DeckFrontModel", name := "expression", desc := "(I)Z" } : Jvm.MethodName)) ∈ wG := wg_in (wt_4 (List.mem_of_getElem? (i := 219) rfl)) rfl
theorem tw_941 : (Jvm.Cond.instanceMethod ({ cls := "DeckFrontModel", name := "expression", desc := "(I)Z" } : Jvm.MethodName)) ∈ wG := wg_in (wt_4 (List.mem_of_getElem? (i := 221) rfl)) rfl
theorem tw_942 : (Jvm.Cond.code ({ cls := "DeckFrontModel", name := "expression", desc := "(I)Z" } : Jvm.MethodName) prog_8_method_36_code (9 : Nat) (Option.some Jvm.ClassFile.FieldType.boolean)) ∈ wG := wg_in (wt_4 (List.mem_of_getElem? (i := 222) rfl)) rfl
theorem tw_943 : (Jvm.Cond.methodLink "DeckFrontModel" (199 : Nat) ({ cls := "DeckFrontModel", name := "wanted", desc := "(II)I" } : Jvm.MethodName)) ∈ wG := wg_in (wt_4 (List.mem_of_getElem? (i := 223) rfl)) rfl
theorem tw_945 : (Jvm.Cond.instanceMethod ({ cls := "DeckFrontModel", name := "wanted", desc := "(II)I" } : Jvm.MethodName)) ∈ wG := wg_in (wt_4 (List.mem_of_getElem? (i := 225) rfl)) rfl
theorem tw_946 : (Jvm.Cond.code ({ cls := "DeckFrontModel", name := "wanted", desc := "(II)I" } : Jvm.MethodName) prog_8_method_33_code (9 : Nat) (Option.some Jvm.ClassFile.FieldType.int)) ∈ wG := wg_in (wt_4 (List.mem_of_getElem? (i := 226) rfl)) rfl
theorem tw_947 : (Jvm.Cond.methodLink "DeckFrontModel" (189 : Nat) ({ cls := "DeckFrontModel", name := "numberEnd", desc := "(I)I" } : Jvm.MethodName)) ∈ wG := wg_in (wt_4 (List.mem_of_getElem? (i := 227) rfl)) rfl
theorem tw_949 : (Jvm.Cond.instanceMethod ({ cls := "DeckFrontModel", name := "numberEnd", desc := "(I)I" } : Jvm.MethodName)) ∈ wG := wg_in (wt_4 (List.mem_of_getElem? (i := 229) rfl)) rfl
theorem tw_950 : (Jvm.Cond.code ({ cls := "DeckFrontModel", name := "numberEnd", desc := "(I)I" } : Jvm.MethodName) prog_8_method_27_code (6 : Nat) (Option.some Jvm.ClassFile.FieldType.int)) ∈ wG := wg_in (wt_4 (List.mem_of_getElem? (i := 230) rfl)) rfl
theorem tw_951 : (Jvm.Cond.methodLink "DeckFrontModel" (170 : Nat) ({ cls := "DeckFrontModel", name := "dots", desc := "(I)I" } : Jvm.MethodName)) ∈ wG := wg_in (wt_4 (List.mem_of_getElem? (i := 231) rfl)) rfl
theorem tw_953 : (Jvm.Cond.instanceMethod ({ cls := "DeckFrontModel", name := "dots", desc := "(I)I" } : Jvm.MethodName)) ∈ wG := wg_in (wt_4 (List.mem_of_getElem? (i := 233) rfl)) rfl
theorem tw_954 : (Jvm.Cond.code ({ cls := "DeckFrontModel", name := "dots", desc := "(I)I" } : Jvm.MethodName) prog_8_method_25_code (6 : Nat) (Option.some Jvm.ClassFile.FieldType.int)) ∈ wG := wg_in (wt_4 (List.mem_of_getElem? (i := 234) rfl)) rfl
theorem tw_955 : (Jvm.Cond.constantLong "DeckFrontModel" (148 : Nat) (20306 : Int64)) ∈ wG := wg_in (wt_4 (List.mem_of_getElem? (i := 235) rfl)) rfl
theorem tw_956 : (Jvm.Cond.constantLong "DeckFrontModel" (150 : Nat) (4279876 : Int64)) ∈ wG := wg_in (wt_4 (List.mem_of_getElem? (i := 236) rfl)) rfl
theorem tw_957 : (Jvm.Cond.constantLong "DeckFrontModel" (152 : Nat) (5132116 : Int64)) ∈ wG := wg_in (wt_4 (List.mem_of_getElem? (i := 237) rfl)) rfl
theorem tw_958 : (Jvm.Cond.constantLong "DeckFrontModel" (154 : Nat) (1414681925 : Int64)) ∈ wG := wg_in (wt_4 (List.mem_of_getElem? (i := 238) rfl)) rfl
theorem tw_959 : (Jvm.Cond.constantLong "DeckFrontModel" (156 : Nat) (301743231813 : Int64)) ∈ wG := wg_in (wt_4 (List.mem_of_getElem? (i := 239) rfl)) rfl
theorem tw_960 : (Jvm.Cond.constantLong "DeckFrontModel" (158 : Nat) (19540 : Int64)) ∈ wG := wg_in (wt_5 (List.mem_of_getElem? (i := 0) rfl)) rfl
theorem tw_961 : (Jvm.Cond.constantLong "DeckFrontModel" (160 : Nat) (19525 : Int64)) ∈ wG := wg_in (wt_5 (List.mem_of_getElem? (i := 1) rfl)) rfl
theorem tw_962 : (Jvm.Cond.constantLong "DeckFrontModel" (162 : Nat) (17745 : Int64)) ∈ wG := wg_in (wt_5 (List.mem_of_getElem? (i := 2) rfl)) rfl
theorem tw_963 : (Jvm.Cond.constantLong "DeckFrontModel" (164 : Nat) (20037 : Int64)) ∈ wG := wg_in (wt_5 (List.mem_of_getElem? (i := 3) rfl)) rfl
theorem tw_964 : (Jvm.Cond.constantLong "DeckFrontModel" (166 : Nat) (18260 : Int64)) ∈ wG := wg_in (wt_5 (List.mem_of_getElem? (i := 4) rfl)) rfl
theorem tw_965 : (Jvm.Cond.constantLong "DeckFrontModel" (168 : Nat) (18245 : Int64)) ∈ wG := wg_in (wt_5 (List.mem_of_getElem? (i := 5) rfl)) rfl
theorem tw_966 : (Jvm.Cond.methodLink "DeckFrontModel" (141 : Nat) ({ cls := "DeckFrontModel", name := "nameEnd", desc := "(I)I" } : Jvm.MethodName)) ∈ wG := wg_in (wt_5 (List.mem_of_getElem? (i := 6) rfl)) rfl
theorem tw_968 : (Jvm.Cond.instanceMethod ({ cls := "DeckFrontModel", name := "nameEnd", desc := "(I)I" } : Jvm.MethodName)) ∈ wG := wg_in (wt_5 (List.mem_of_getElem? (i := 8) rfl)) rfl
theorem tw_969 : (Jvm.Cond.code ({ cls := "DeckFrontModel", name := "nameEnd", desc := "(I)I" } : Jvm.MethodName) prog_8_method_22_code (3 : Nat) (Option.some Jvm.ClassFile.FieldType.int)) ∈ wG := wg_in (wt_5 (List.mem_of_getElem? (i := 9) rfl)) rfl
theorem tw_970 : (Jvm.Cond.methodLink "DeckFrontModel" (182 : Nat) ({ cls := "DeckFrontModel", name := "part", desc := "(IIIII)I" } : Jvm.MethodName)) ∈ wG := wg_in (wt_5 (List.mem_of_getElem? (i := 10) rfl)) rfl
theorem tw_972 : (Jvm.Cond.instanceMethod ({ cls := "DeckFrontModel", name := "part", desc := "(IIIII)I" } : Jvm.MethodName)) ∈ wG := wg_in (wt_5 (List.mem_of_getElem? (i := 12) rfl)) rfl
theorem tw_973 : (Jvm.Cond.code ({ cls := "DeckFrontModel", name := "part", desc := "(IIIII)I" } : Jvm.MethodName) prog_8_method_28_code (6 : Nat) (Option.some Jvm.ClassFile.FieldType.int)) ∈ wG := wg_in (wt_5 (List.mem_of_getElem? (i := 13) rfl)) rfl
theorem tw_974 : (Jvm.Cond.methodLink "DeckFrontModel" (186 : Nat) ({ cls := "DeckFrontModel", name := "value", desc := "(I)V" } : Jvm.MethodName)) ∈ wG := wg_in (wt_5 (List.mem_of_getElem? (i := 14) rfl)) rfl
theorem tw_976 : (Jvm.Cond.instanceMethod ({ cls := "DeckFrontModel", name := "value", desc := "(I)V" } : Jvm.MethodName)) ∈ wG := wg_in (wt_5 (List.mem_of_getElem? (i := 16) rfl)) rfl
theorem tw_977 : (Jvm.Cond.code ({ cls := "DeckFrontModel", name := "value", desc := "(I)V" } : Jvm.MethodName) prog_8_method_29_code (2 : Nat) (Option.none : Option Jvm.ClassFile.FieldType)) ∈ wG := wg_in (wt_5 (List.mem_of_getElem? (i := 17) rfl)) rfl
theorem tw_978 : (Jvm.Cond.methodLink "DeckFrontModel" (144 : Nat) ({ cls := "DeckFrontModel", name := "use", desc := "(IIII)V" } : Jvm.MethodName)) ∈ wG := wg_in (wt_5 (List.mem_of_getElem? (i := 18) rfl)) rfl
theorem tw_980 : (Jvm.Cond.instanceMethod ({ cls := "DeckFrontModel", name := "use", desc := "(IIII)V" } : Jvm.MethodName)) ∈ wG := wg_in (wt_5 (List.mem_of_getElem? (i := 20) rfl)) rfl
theorem tw_981 : (Jvm.Cond.code ({ cls := "DeckFrontModel", name := "use", desc := "(IIII)V" } : Jvm.MethodName) prog_8_method_23_code (8 : Nat) (Option.none : Option Jvm.ClassFile.FieldType)) ∈ wG := wg_in (wt_5 (List.mem_of_getElem? (i := 21) rfl)) rfl
theorem tw_982 : (Jvm.Cond.methodLink "DeckFrontModel" (192 : Nat) ({ cls := "DeckFrontModel", name := "push", desc := "(IIIZ)V" } : Jvm.MethodName)) ∈ wG := wg_in (wt_5 (List.mem_of_getElem? (i := 22) rfl)) rfl
theorem tw_984 : (Jvm.Cond.instanceMethod ({ cls := "DeckFrontModel", name := "push", desc := "(IIIZ)V" } : Jvm.MethodName)) ∈ wG := wg_in (wt_5 (List.mem_of_getElem? (i := 24) rfl)) rfl
theorem tw_985 : (Jvm.Cond.code ({ cls := "DeckFrontModel", name := "push", desc := "(IIIZ)V" } : Jvm.MethodName) prog_8_method_30_code (5 : Nat) (Option.none : Option Jvm.ClassFile.FieldType)) ∈ wG := wg_in (wt_5 (List.mem_of_getElem? (i := 25) rfl)) rfl
theorem tw_986 : (Jvm.Cond.methodLink "DeckFrontModel" (196 : Nat) ({ cls := "DeckFrontModel", name := "dotted", desc := "(I)I" } : Jvm.MethodName)) ∈ wG := wg_in (wt_5 (List.mem_of_getElem? (i := 26) rfl)) rfl
theorem tw_988 : (Jvm.Cond.instanceMethod ({ cls := "DeckFrontModel", name := "dotted", desc := "(I)I" } : Jvm.MethodName)) ∈ wG := wg_in (wt_5 (List.mem_of_getElem? (i := 28) rfl)) rfl
theorem tw_989 : (Jvm.Cond.code ({ cls := "DeckFrontModel", name := "dotted", desc := "(I)I" } : Jvm.MethodName) prog_8_method_26_code (3 : Nat) (Option.some Jvm.ClassFile.FieldType.int)) ∈ wG := wg_in (wt_5 (List.mem_of_getElem? (i := 29) rfl)) rfl
theorem tw_990 : (Jvm.Cond.methodLink "DeckFrontModel" (203 : Nat) ({ cls := "DeckFrontModel", name := "between", desc := "()I" } : Jvm.MethodName)) ∈ wG := wg_in (wt_5 (List.mem_of_getElem? (i := 30) rfl)) rfl
theorem tw_992 : (Jvm.Cond.instanceMethod ({ cls := "DeckFrontModel", name := "between", desc := "()I" } : Jvm.MethodName)) ∈ wG := wg_in (wt_5 (List.mem_of_getElem? (i := 32) rfl)) rfl
theorem tw_993 : (Jvm.Cond.code ({ cls := "DeckFrontModel", name := "between", desc := "()I" } : Jvm.MethodName) prog_8_method_34_code (3 : Nat) (Option.some Jvm.ClassFile.FieldType.int)) ∈ wG := wg_in (wt_5 (List.mem_of_getElem? (i := 33) rfl)) rfl
theorem tw_994 : (Jvm.Cond.methodLink "DeckFrontModel" (207 : Nat) ({ cls := "DeckFrontModel", name := "related", desc := "()Z" } : Jvm.MethodName)) ∈ wG := wg_in (wt_5 (List.mem_of_getElem? (i := 34) rfl)) rfl
theorem tw_996 : (Jvm.Cond.instanceMethod ({ cls := "DeckFrontModel", name := "related", desc := "()Z" } : Jvm.MethodName)) ∈ wG := wg_in (wt_5 (List.mem_of_getElem? (i := 36) rfl)) rfl
theorem tw_997 : (Jvm.Cond.code ({ cls := "DeckFrontModel", name := "related", desc := "()Z" } : Jvm.MethodName) prog_8_method_35_code (2 : Nat) (Option.some Jvm.ClassFile.FieldType.boolean)) ∈ wG := wg_in (wt_5 (List.mem_of_getElem? (i := 37) rfl)) rfl
theorem tw_998 : (Jvm.Cond.methodLink "DeckFrontModel" (210 : Nat) ({ cls := "DeckFrontModel", name := "reduce", desc := "(I)V" } : Jvm.MethodName)) ∈ wG := wg_in (wt_5 (List.mem_of_getElem? (i := 38) rfl)) rfl
theorem tw_1000 : (Jvm.Cond.instanceMethod ({ cls := "DeckFrontModel", name := "reduce", desc := "(I)V" } : Jvm.MethodName)) ∈ wG := wg_in (wt_5 (List.mem_of_getElem? (i := 40) rfl)) rfl
theorem tw_1001 : (Jvm.Cond.code ({ cls := "DeckFrontModel", name := "reduce", desc := "(I)V" } : Jvm.MethodName) prog_8_method_31_code (3 : Nat) (Option.none : Option Jvm.ClassFile.FieldType)) ∈ wG := wg_in (wt_5 (List.mem_of_getElem? (i := 41) rfl)) rfl
theorem tw_1002 : (Jvm.Cond.methodLink "DeckFrontModel" (213 : Nat) ({ cls := "DeckFrontModel", name := "print", desc := "(I)V" } : Jvm.MethodName)) ∈ wG := wg_in (wt_5 (List.mem_of_getElem? (i := 42) rfl)) rfl
theorem tw_1004 : (Jvm.Cond.instanceMethod ({ cls := "DeckFrontModel", name := "print", desc := "(I)V" } : Jvm.MethodName)) ∈ wG := wg_in (wt_5 (List.mem_of_getElem? (i := 44) rfl)) rfl
theorem tw_1005 : (Jvm.Cond.code ({ cls := "DeckFrontModel", name := "print", desc := "(I)V" } : Jvm.MethodName) prog_8_method_37_code (5 : Nat) (Option.none : Option Jvm.ClassFile.FieldType)) ∈ wG := wg_in (wt_5 (List.mem_of_getElem? (i := 45) rfl)) rfl
theorem tw_1006 : (Jvm.Cond.methodLink "DeckFrontModel" (216 : Nat) ({ cls := "DeckFrontModel", name := "joins", desc := "()V" } : Jvm.MethodName)) ∈ wG := wg_in (wt_5 (List.mem_of_getElem? (i := 46) rfl)) rfl
theorem tw_1008 : (Jvm.Cond.instanceMethod ({ cls := "DeckFrontModel", name := "joins", desc := "()V" } : Jvm.MethodName)) ∈ wG := wg_in (wt_5 (List.mem_of_getElem? (i := 48) rfl)) rfl
theorem tw_1009 : (Jvm.Cond.code ({ cls := "DeckFrontModel", name := "joins", desc := "()V" } : Jvm.MethodName) prog_8_method_32_code (3 : Nat) (Option.none : Option Jvm.ClassFile.FieldType)) ∈ wG := wg_in (wt_5 (List.mem_of_getElem? (i := 49) rfl)) rfl
theorem tw_1010 : (Jvm.Cond.methodLink "DeckFrontModel" (226 : Nat) ({ cls := "DeckFrontModel", name := "sign", desc := "(I)Z" } : Jvm.MethodName)) ∈ wG := wg_in (wt_5 (List.mem_of_getElem? (i := 50) rfl)) rfl
theorem tw_1012 : (Jvm.Cond.instanceMethod ({ cls := "DeckFrontModel", name := "sign", desc := "(I)Z" } : Jvm.MethodName)) ∈ wG := wg_in (wt_5 (List.mem_of_getElem? (i := 52) rfl)) rfl
theorem tw_1013 : (Jvm.Cond.code ({ cls := "DeckFrontModel", name := "sign", desc := "(I)Z" } : Jvm.MethodName) prog_8_method_19_code (2 : Nat) (Option.some Jvm.ClassFile.FieldType.boolean)) ∈ wG := wg_in (wt_5 (List.mem_of_getElem? (i := 53) rfl)) rfl
theorem tw_1014 : (Jvm.Cond.methodLink "DeckFrontModel" (316 : Nat) ({ cls := "DeckFrontModel", name := "behind", desc := "()I" } : Jvm.MethodName)) ∈ wG := wg_in (wt_5 (List.mem_of_getElem? (i := 54) rfl)) rfl
theorem tw_1016 : (Jvm.Cond.instanceMethod ({ cls := "DeckFrontModel", name := "behind", desc := "()I" } : Jvm.MethodName)) ∈ wG := wg_in (wt_5 (List.mem_of_getElem? (i := 56) rfl)) rfl
theorem tw_1017 : (Jvm.Cond.code ({ cls := "DeckFrontModel", name := "behind", desc := "()I" } : Jvm.MethodName) prog_8_method_51_code (5 : Nat) (Option.some Jvm.ClassFile.FieldType.int)) ∈ wG := wg_in (wt_5 (List.mem_of_getElem? (i := 57) rfl)) rfl
theorem tw_1018 : (Jvm.Cond.methodLink "DeckFrontModel" (310 : Nat) ({ cls := "DeckFrontModel", name := "simple", desc := "(I)Z" } : Jvm.MethodName)) ∈ wG := wg_in (wt_5 (List.mem_of_getElem? (i := 58) rfl)) rfl
theorem tw_1020 : (Jvm.Cond.instanceMethod ({ cls := "DeckFrontModel", name := "simple", desc := "(I)Z" } : Jvm.MethodName)) ∈ wG := wg_in (wt_5 (List.mem_of_getElem? (i := 60) rfl)) rfl
theorem tw_1021 : (Jvm.Cond.code ({ cls := "DeckFrontModel", name := "simple", desc := "(I)Z" } : Jvm.MethodName) prog_8_method_49_code (2 : Nat) (Option.some Jvm.ClassFile.FieldType.boolean)) ∈ wG := wg_in (wt_5 (List.mem_of_getElem? (i := 61) rfl)) rfl
theorem tw_1022 : (Jvm.Cond.methodLink "DeckFrontModel" (264 : Nat) ({ cls := "DeckFrontModel", name := "isDo", desc := "()Z" } : Jvm.MethodName)) ∈ wG := wg_in (wt_5 (List.mem_of_getElem? (i := 62) rfl)) rfl
theorem tw_1024 : (Jvm.Cond.instanceMethod ({ cls := "DeckFrontModel", name := "isDo", desc := "()Z" } : Jvm.MethodName)) ∈ wG := wg_in (wt_5 (List.mem_of_getElem? (i := 64) rfl)) rfl
theorem tw_1025 : (Jvm.Cond.code ({ cls := "DeckFrontModel", name := "isDo", desc := "()Z" } : Jvm.MethodName) prog_8_method_40_code (2 : Nat) (Option.some Jvm.ClassFile.FieldType.boolean)) ∈ wG := wg_in (wt_5 (List.mem_of_getElem? (i := 65) rfl)) rfl
theorem tw_1026 : (Jvm.Cond.constantLong "DeckFrontModel" (232 : Nat) (17487 : Int64)) ∈ wG := wg_in (wt_5 (List.mem_of_getElem? (i := 66) rfl)) rfl
theorem tw_1027 : (Jvm.Cond.methodLink "DeckFrontModel" (238 : Nat) ({ cls := "DeckFrontModel", name := "digits", desc := "(I)I" } : Jvm.MethodName)) ∈ wG := wg_in (wt_5 (List.mem_of_getElem? (i := 67) rfl)) rfl
theorem tw_1029 : (Jvm.Cond.instanceMethod ({ cls := "DeckFrontModel", name := "digits", desc := "(I)I" } : Jvm.MethodName)) ∈ wG := wg_in (wt_5 (List.mem_of_getElem? (i := 69) rfl)) rfl
theorem tw_1030 : (Jvm.Cond.code ({ cls := "DeckFrontModel", name := "digits", desc := "(I)I" } : Jvm.MethodName) prog_8_method_21_code (5 : Nat) (Option.some Jvm.ClassFile.FieldType.int)) ∈ wG := wg_in (wt_5 (List.mem_of_getElem? (i := 70) rfl)) rfl
theorem tw_1031 : (Jvm.Cond.methodLink "DeckFrontModel" (241 : Nat) ({ cls := "DeckFrontModel", name := "comma", desc := "()V" } : Jvm.MethodName)) ∈ wG := wg_in (wt_5 (List.mem_of_getElem? (i := 71) rfl)) rfl
theorem tw_1033 : (Jvm.Cond.instanceMethod ({ cls := "DeckFrontModel", name := "comma", desc := "()V" } : Jvm.MethodName)) ∈ wG := wg_in (wt_5 (List.mem_of_getElem? (i := 73) rfl)) rfl
theorem tw_1034 : (Jvm.Cond.code ({ cls := "DeckFrontModel", name := "comma", desc := "()V" } : Jvm.MethodName) prog_8_method_20_code (1 : Nat) (Option.none : Option Jvm.ClassFile.FieldType)) ∈ wG := wg_in (wt_5 (List.mem_of_getElem? (i := 74) rfl)) rfl
theorem tw_1035 : (Jvm.Cond.methodLink "DeckFrontModel" (222 : Nat) ({ cls := "DeckFrontModel", name := "name", desc := "(II)Z" } : Jvm.MethodName)) ∈ wG := wg_in (wt_5 (List.mem_of_getElem? (i := 75) rfl)) rfl
theorem tw_1037 : (Jvm.Cond.instanceMethod ({ cls := "DeckFrontModel", name := "name", desc := "(II)Z" } : Jvm.MethodName)) ∈ wG := wg_in (wt_5 (List.mem_of_getElem? (i := 77) rfl)) rfl
theorem tw_1038 : (Jvm.Cond.code ({ cls := "DeckFrontModel", name := "name", desc := "(II)Z" } : Jvm.MethodName) prog_8_method_24_code (4 : Nat) (Option.some Jvm.ClassFile.FieldType.boolean)) ∈ wG := wg_in (wt_5 (List.mem_of_getElem? (i := 78) rfl)) rfl
theorem tw_1039 : (Jvm.Cond.methodLink "DeckFrontModel" (267 : Nat) ({ cls := "DeckFrontModel", name := "isAssignment", desc := "()Z" } : Jvm.MethodName)) ∈ wG := wg_in (wt_5 (List.mem_of_getElem? (i := 79) rfl)) rfl
theorem tw_1041 : (Jvm.Cond.instanceMethod ({ cls := "DeckFrontModel", name := "isAssignment", desc := "()Z" } : Jvm.MethodName)) ∈ wG := wg_in (wt_5 (List.mem_of_getElem? (i := 81) rfl)) rfl
theorem tw_1042 : (Jvm.Cond.code ({ cls := "DeckFrontModel", name := "isAssignment", desc := "()Z" } : Jvm.MethodName) prog_8_method_41_code (1 : Nat) (Option.some Jvm.ClassFile.FieldType.boolean)) ∈ wG := wg_in (wt_5 (List.mem_of_getElem? (i := 82) rfl)) rfl
theorem tw_1043 : (Jvm.Cond.methodLink "DeckFrontModel" (247 : Nat) ({ cls := "DeckFrontModel", name := "nameWithList", desc := "(II)Z" } : Jvm.MethodName)) ∈ wG := wg_in (wt_5 (List.mem_of_getElem? (i := 83) rfl)) rfl
theorem tw_1045 : (Jvm.Cond.instanceMethod ({ cls := "DeckFrontModel", name := "nameWithList", desc := "(II)Z" } : Jvm.MethodName)) ∈ wG := wg_in (wt_5 (List.mem_of_getElem? (i := 85) rfl)) rfl
theorem tw_1046 : (Jvm.Cond.code ({ cls := "DeckFrontModel", name := "nameWithList", desc := "(II)Z" } : Jvm.MethodName) prog_8_method_39_code (5 : Nat) (Option.some Jvm.ClassFile.FieldType.boolean)) ∈ wG := wg_in (wt_5 (List.mem_of_getElem? (i := 86) rfl)) rfl
theorem tw_1047 : (Jvm.Cond.methodLink "DeckFrontModel" (229 : Nat) ({ cls := "DeckFrontModel", name := "expressions", desc := "(I)Z" } : Jvm.MethodName)) ∈ wG := wg_in (wt_5 (List.mem_of_getElem? (i := 87) rfl)) rfl
theorem tw_1049 : (Jvm.Cond.instanceMethod ({ cls := "DeckFrontModel", name := "expressions", desc := "(I)Z" } : Jvm.MethodName)) ∈ wG := wg_in (wt_5 (List.mem_of_getElem? (i := 89) rfl)) rfl
theorem tw_1050 : (Jvm.Cond.code ({ cls := "DeckFrontModel", name := "expressions", desc := "(I)Z" } : Jvm.MethodName) prog_8_method_38_code (3 : Nat) (Option.some Jvm.ClassFile.FieldType.boolean)) ∈ wG := wg_in (wt_5 (List.mem_of_getElem? (i := 90) rfl)) rfl
theorem tw_1051 : (Jvm.Cond.methodLink "DeckFrontModel" (272 : Nat) ({ cls := "DeckFrontModel", name := "isThen", desc := "(J)Z" } : Jvm.MethodName)) ∈ wG := wg_in (wt_5 (List.mem_of_getElem? (i := 91) rfl)) rfl
theorem tw_1053 : (Jvm.Cond.instanceMethod ({ cls := "DeckFrontModel", name := "isThen", desc := "(J)Z" } : Jvm.MethodName)) ∈ wG := wg_in (wt_5 (List.mem_of_getElem? (i := 93) rfl)) rfl
theorem tw_1054 : (Jvm.Cond.code ({ cls := "DeckFrontModel", name := "isThen", desc := "(J)Z" } : Jvm.MethodName) prog_8_method_48_code (3 : Nat) (Option.some Jvm.ClassFile.FieldType.boolean)) ∈ wG := wg_in (wt_5 (List.mem_of_getElem? (i := 94) rfl)) rfl
theorem tw_1055 : (Jvm.Cond.constantLong "DeckFrontModel" (262 : Nat) (177507681614 : Int64)) ∈ wG := wg_in (wt_5 (List.mem_of_getElem? (i := 95) rfl)) rfl
theorem tw_1056 : (Jvm.Cond.constantLong "DeckFrontModel" (275 : Nat) (19505693921461800 : Int64)) ∈ wG := wg_in (wt_5 (List.mem_of_getElem? (i := 96) rfl)) rfl
theorem tw_1057 : (Jvm.Cond.constantLong "DeckFrontModel" (277 : Nat) (1162629957 : Int64)) ∈ wG := wg_in (wt_5 (List.mem_of_getElem? (i := 97) rfl)) rfl
theorem tw_1058 : (Jvm.Cond.methodLink "DeckFrontModel" (279 : Nat) ({ cls := "DeckFrontModel", name := "alone", desc := "(JI)Z" } : Jvm.MethodName)) ∈ wG := wg_in (wt_5 (List.mem_of_getElem? (i := 98) rfl)) rfl
theorem tw_1060 : (Jvm.Cond.instanceMethod ({ cls := "DeckFrontModel", name := "alone", desc := "(JI)Z" } : Jvm.MethodName)) ∈ wG := wg_in (wt_5 (List.mem_of_getElem? (i := 100) rfl)) rfl
theorem tw_1061 : (Jvm.Cond.code ({ cls := "DeckFrontModel", name := "alone", desc := "(JI)Z" } : Jvm.MethodName) prog_8_method_47_code (4 : Nat) (Option.some Jvm.ClassFile.FieldType.boolean)) ∈ wG := wg_in (wt_5 (List.mem_of_getElem? (i := 101) rfl)) rfl
theorem tw_1062 : (Jvm.Cond.constantLong "DeckFrontModel" (283 : Nat) (297665841478 : Int64)) ∈ wG := wg_in (wt_5 (List.mem_of_getElem? (i := 102) rfl)) rfl
theorem tw_1063 : (Jvm.Cond.constantLong "DeckFrontModel" (285 : Nat) (4850181447615403333 : Int64)) ∈ wG := wg_in (wt_5 (List.mem_of_getElem? (i := 103) rfl)) rfl
theorem tw_1064 : (Jvm.Cond.methodLink "DeckFrontModel" (287 : Nat) ({ cls := "DeckFrontModel", name := "isGoTo", desc := "()Z" } : Jvm.MethodName)) ∈ wG := wg_in (wt_5 (List.mem_of_getElem? (i := 104) rfl)) rfl
theorem tw_1066 : (Jvm.Cond.instanceMethod ({ cls := "DeckFrontModel", name := "isGoTo", desc := "()Z" } : Jvm.MethodName)) ∈ wG := wg_in (wt_5 (List.mem_of_getElem? (i := 106) rfl)) rfl
theorem tw_1067 : (Jvm.Cond.code ({ cls := "DeckFrontModel", name := "isGoTo", desc := "()Z" } : Jvm.MethodName) prog_8_method_42_code (1 : Nat) (Option.some Jvm.ClassFile.FieldType.boolean)) ∈ wG := wg_in (wt_5 (List.mem_of_getElem? (i := 107) rfl)) rfl
theorem tw_1068 : (Jvm.Cond.constantLong "DeckFrontModel" (250 : Nat) (1196381263 : Int64)) ∈ wG := wg_in (wt_5 (List.mem_of_getElem? (i := 108) rfl)) rfl
theorem tw_1069 : (Jvm.Cond.methodLink "DeckFrontModel" (290 : Nat) ({ cls := "DeckFrontModel", name := "isCall", desc := "()Z" } : Jvm.MethodName)) ∈ wG := wg_in (wt_5 (List.mem_of_getElem? (i := 109) rfl)) rfl
theorem tw_1071 : (Jvm.Cond.instanceMethod ({ cls := "DeckFrontModel", name := "isCall", desc := "()Z" } : Jvm.MethodName)) ∈ wG := wg_in (wt_5 (List.mem_of_getElem? (i := 111) rfl)) rfl
theorem tw_1072 : (Jvm.Cond.code ({ cls := "DeckFrontModel", name := "isCall", desc := "()Z" } : Jvm.MethodName) prog_8_method_44_code (1 : Nat) (Option.some Jvm.ClassFile.FieldType.boolean)) ∈ wG := wg_in (wt_5 (List.mem_of_getElem? (i := 112) rfl)) rfl
theorem tw_1073 : (Jvm.Cond.constantLong "DeckFrontModel" (252 : Nat) (1128352844 : Int64)) ∈ wG := wg_in (wt_5 (List.mem_of_getElem? (i := 113) rfl)) rfl
theorem tw_1074 : (Jvm.Cond.constantLong "DeckFrontModel" (293 : Nat) (90457721098830 : Int64)) ∈ wG := wg_in (wt_5 (List.mem_of_getElem? (i := 114) rfl)) rfl
theorem tw_1075 : (Jvm.Cond.constantLong "DeckFrontModel" (295 : Nat) (1398034256 : Int64)) ∈ wG := wg_in (wt_5 (List.mem_of_getElem? (i := 115) rfl)) rfl
theorem tw_1076 : (Jvm.Cond.constantLong "DeckFrontModel" (297 : Nat) (22608472937081388 : Int64)) ∈ wG := wg_in (wt_5 (List.mem_of_getElem? (i := 116) rfl)) rfl
theorem tw_1077 : (Jvm.Cond.constantLong "DeckFrontModel" (299 : Nat) (4542020 : Int64)) ∈ wG := wg_in (wt_5 (List.mem_of_getElem? (i := 117) rfl)) rfl
theorem tw_1078 : (Jvm.Cond.methodLink "DeckFrontModel" (301 : Nat) ({ cls := "DeckFrontModel", name := "isType", desc := "()Z" } : Jvm.MethodName)) ∈ wG := wg_in (wt_5 (List.mem_of_getElem? (i := 118) rfl)) rfl
theorem tw_1080 : (Jvm.Cond.instanceMethod ({ cls := "DeckFrontModel", name := "isType", desc := "()Z" } : Jvm.MethodName)) ∈ wG := wg_in (wt_5 (List.mem_of_getElem? (i := 120) rfl)) rfl
theorem tw_1081 : (Jvm.Cond.code ({ cls := "DeckFrontModel", name := "isType", desc := "()Z" } : Jvm.MethodName) prog_8_method_45_code (3 : Nat) (Option.some Jvm.ClassFile.FieldType.boolean)) ∈ wG := wg_in (wt_5 (List.mem_of_getElem? (i := 121) rfl)) rfl
theorem tw_1082 : (Jvm.Cond.constantLong "DeckFrontModel" (254 : Nat) (20633797146395986 : Int64)) ∈ wG := wg_in (wt_5 (List.mem_of_getElem? (i := 122) rfl)) rfl
theorem tw_1083 : (Jvm.Cond.constantLong "DeckFrontModel" (256 : Nat) (1380270412 : Int64)) ∈ wG := wg_in (wt_5 (List.mem_of_getElem? (i := 123) rfl)) rfl
theorem tw_1084 : (Jvm.Cond.constantLong "DeckFrontModel" (258 : Nat) (21479265820426572 : Int64)) ∈ wG := wg_in (wt_5 (List.mem_of_getElem? (i := 124) rfl)) rfl
theorem tw_1085 : (Jvm.Cond.methodLink "DeckFrontModel" (304 : Nat) ({ cls := "DeckFrontModel", name := "isDimension", desc := "()Z" } : Jvm.MethodName)) ∈ wG := wg_in (wt_5 (List.mem_of_getElem? (i := 125) rfl)) rfl
theorem tw_1087 : (Jvm.Cond.instanceMethod ({ cls := "DeckFrontModel", name := "isDimension", desc := "()Z" } : Jvm.MethodName)) ∈ wG := wg_in (wt_5 (List.mem_of_getElem? (i := 127) rfl)) rfl
theorem tw_1088 : (Jvm.Cond.code ({ cls := "DeckFrontModel", name := "isDimension", desc := "()Z" } : Jvm.MethodName) prog_8_method_46_code (3 : Nat) (Option.some Jvm.ClassFile.FieldType.boolean)) ∈ wG := wg_in (wt_5 (List.mem_of_getElem? (i := 128) rfl)) rfl
theorem tw_1089 : (Jvm.Cond.constantLong "DeckFrontModel" (260 : Nat) (4920549027941140815 : Int64)) ∈ wG := wg_in (wt_5 (List.mem_of_getElem? (i := 129) rfl)) rfl
theorem tw_1090 : (Jvm.Cond.methodLink "DeckFrontModel" (307 : Nat) ({ cls := "DeckFrontModel", name := "isComputed", desc := "()Z" } : Jvm.MethodName)) ∈ wG := wg_in (wt_5 (List.mem_of_getElem? (i := 130) rfl)) rfl
theorem tw_1092 : (Jvm.Cond.instanceMethod ({ cls := "DeckFrontModel", name := "isComputed", desc := "()Z" } : Jvm.MethodName)) ∈ wG := wg_in (wt_5 (List.mem_of_getElem? (i := 132) rfl)) rfl
theorem tw_1093 : (Jvm.Cond.code ({ cls := "DeckFrontModel", name := "isComputed", desc := "()Z" } : Jvm.MethodName) prog_8_method_43_code (3 : Nat) (Option.some Jvm.ClassFile.FieldType.boolean)) ∈ wG := wg_in (wt_5 (List.mem_of_getElem? (i := 133) rfl)) rfl
theorem tw_1094 : (Jvm.Cond.methodLink "DeckFrontModel" (313 : Nat) ({ cls := "DeckFrontModel", name := "mayFollow", desc := "(I)Z" } : Jvm.MethodName)) ∈ wG := wg_in (wt_5 (List.mem_of_getElem? (i := 134) rfl)) rfl
theorem tw_1095 : (Jvm.Cond.static ({ cls := "DeckFrontModel", name := "mayFollow", desc := "(I)Z" } : Jvm.MethodName)) ∈ wG := wg_in (wt_5 (List.mem_of_getElem? (i := 135) rfl)) rfl
theorem tw_1096 : (Jvm.Cond.code ({ cls := "DeckFrontModel", name := "mayFollow", desc := "(I)Z" } : Jvm.MethodName) prog_8_method_50_code (1 : Nat) (Option.some Jvm.ClassFile.FieldType.boolean)) ∈ wG := wg_in (wt_5 (List.mem_of_getElem? (i := 136) rfl)) rfl
theorem tw_1097 : (Jvm.Cond.methodLink "DeckFrontLaw" (58 : Nat) ({ cls := "DeckFrontModel", name := "shown", desc := "(II)I" } : Jvm.MethodName)) ∈ wG := wg_in (wt_5 (List.mem_of_getElem? (i := 137) rfl)) rfl
theorem tw_1098 : (Jvm.Cond.instanceMethod ({ cls := "DeckFrontModel", name := "shown", desc := "(II)I" } : Jvm.MethodName)) ∈ wG := wg_in (wt_5 (List.mem_of_getElem? (i := 138) rfl)) rfl
theorem tw_1099 : (Jvm.Cond.selects "DeckFrontModel" ({ cls := "DeckFrontModel", name := "shown", desc := "(II)I" } : Jvm.MethodName) ({ cls := "DeckFrontModel", name := "shown", desc := "(II)I" } : Jvm.MethodName)) ∈ wG := wg_in (wt_5 (List.mem_of_getElem? (i := 139) rfl)) rfl
theorem tw_1100 : (Jvm.Cond.code ({ cls := "DeckFrontModel", name := "shown", desc := "(II)I" } : Jvm.MethodName) prog_8_method_55_code (4 : Nat) (Option.some Jvm.ClassFile.FieldType.int)) ∈ wG := wg_in (wt_5 (List.mem_of_getElem? (i := 140) rfl)) rfl
theorem tw_1101 : (Jvm.Cond.methodLink "DeckFrontLaw" (63 : Nat) ({ cls := "DeckFrontModel", name := "kind", desc := "(J)I" } : Jvm.MethodName)) ∈ wG := wg_in (wt_5 (List.mem_of_getElem? (i := 141) rfl)) rfl
theorem tw_1102 : (Jvm.Cond.instanceMethod ({ cls := "DeckFrontModel", name := "kind", desc := "(J)I" } : Jvm.MethodName)) ∈ wG := wg_in (wt_5 (List.mem_of_getElem? (i := 142) rfl)) rfl
theorem tw_1103 : (Jvm.Cond.selects "DeckFrontModel" ({ cls := "DeckFrontModel", name := "kind", desc := "(J)I" } : Jvm.MethodName) ({ cls := "DeckFrontModel", name := "kind", desc := "(J)I" } : Jvm.MethodName)) ∈ wG := wg_in (wt_5 (List.mem_of_getElem? (i := 143) rfl)) rfl
theorem tw_1104 : (Jvm.Cond.code ({ cls := "DeckFrontModel", name := "kind", desc := "(J)I" } : Jvm.MethodName) prog_8_method_57_code (10 : Nat) (Option.some Jvm.ClassFile.FieldType.int)) ∈ wG := wg_in (wt_5 (List.mem_of_getElem? (i := 144) rfl)) rfl
theorem tw_1105 : (Jvm.Cond.methodLink "DeckFrontModel" (328 : Nat) ({ cls := "DeckFrontModel", name := "packed", desc := "(J)J" } : Jvm.MethodName)) ∈ wG := wg_in (wt_5 (List.mem_of_getElem? (i := 145) rfl)) rfl
theorem tw_1106 : (Jvm.Cond.static ({ cls := "DeckFrontModel", name := "packed", desc := "(J)J" } : Jvm.MethodName)) ∈ wG := wg_in (wt_5 (List.mem_of_getElem? (i := 146) rfl)) rfl
theorem tw_1107 : (Jvm.Cond.code ({ cls := "DeckFrontModel", name := "packed", desc := "(J)J" } : Jvm.MethodName) prog_8_method_56_code (7 : Nat) (Option.some Jvm.ClassFile.FieldType.long)) ∈ wG := wg_in (wt_5 (List.mem_of_getElem? (i := 147) rfl)) rfl
theorem tw_1108 : (Jvm.Cond.methodLink "DeckFrontLaw" (67 : Nat) ({ cls := "DeckFrontModel", name := "type", desc := "(J)I" } : Jvm.MethodName)) ∈ wG := wg_in (wt_5 (List.mem_of_getElem? (i := 148) rfl)) rfl
theorem tw_1109 : (Jvm.Cond.instanceMethod ({ cls := "DeckFrontModel", name := "type", desc := "(J)I" } : Jvm.MethodName)) ∈ wG := wg_in (wt_5 (List.mem_of_getElem? (i := 149) rfl)) rfl
theorem tw_1110 : (Jvm.Cond.selects "DeckFrontModel" ({ cls := "DeckFrontModel", name := "type", desc := "(J)I" } : Jvm.MethodName) ({ cls := "DeckFrontModel", name := "type", desc := "(J)I" } : Jvm.MethodName)) ∈ wG := wg_in (wt_5 (List.mem_of_getElem? (i := 150) rfl)) rfl
theorem tw_1111 : (Jvm.Cond.code ({ cls := "DeckFrontModel", name := "type", desc := "(J)I" } : Jvm.MethodName) prog_8_method_58_code (8 : Nat) (Option.some Jvm.ClassFile.FieldType.int)) ∈ wG := wg_in (wt_5 (List.mem_of_getElem? (i := 151) rfl)) rfl
theorem tw_1112 : (Jvm.Cond.constantLong "DeckFrontModel" (332 : Nat) (73 : Int64)) ∈ wG := wg_in (wt_5 (List.mem_of_getElem? (i := 152) rfl)) rfl
theorem tw_1113 : (Jvm.Cond.constantLong "DeckFrontModel" (334 : Nat) (78 : Int64)) ∈ wG := wg_in (wt_5 (List.mem_of_getElem? (i := 153) rfl)) rfl
theorem tw_1114 : (Jvm.Cond.methodLink "DeckFrontLaw" (71 : Nat) ({ cls := "DeckFrontModel", name := "fault", desc := "()I" } : Jvm.MethodName)) ∈ wG := wg_in (wt_5 (List.mem_of_getElem? (i := 154) rfl)) rfl
theorem tw_1115 : (Jvm.Cond.instanceMethod ({ cls := "DeckFrontModel", name := "fault", desc := "()I" } : Jvm.MethodName)) ∈ wG := wg_in (wt_5 (List.mem_of_getElem? (i := 155) rfl)) rfl
theorem tw_1116 : (Jvm.Cond.selects "DeckFrontModel" ({ cls := "DeckFrontModel", name := "fault", desc := "()I" } : Jvm.MethodName) ({ cls := "DeckFrontModel", name := "fault", desc := "()I" } : Jvm.MethodName)) ∈ wG := wg_in (wt_5 (List.mem_of_getElem? (i := 156) rfl)) rfl
theorem tw_1117 : (Jvm.Cond.code ({ cls := "DeckFrontModel", name := "fault", desc := "()I" } : Jvm.MethodName) prog_8_method_64_code (1 : Nat) (Option.some Jvm.ClassFile.FieldType.int)) ∈ wG := wg_in (wt_5 (List.mem_of_getElem? (i := 157) rfl)) rfl
theorem tw_1118 : (Jvm.Cond.methodLink "DeckFrontModel" (352 : Nat) ({ cls := "DeckFrontModel", name := "firstFault", desc := "()I" } : Jvm.MethodName)) ∈ wG := wg_in (wt_5 (List.mem_of_getElem? (i := 158) rfl)) rfl
theorem tw_1120 : (Jvm.Cond.instanceMethod ({ cls := "DeckFrontModel", name := "firstFault", desc := "()I" } : Jvm.MethodName)) ∈ wG := wg_in (wt_5 (List.mem_of_getElem? (i := 160) rfl)) rfl
theorem tw_1121 : (Jvm.Cond.code ({ cls := "DeckFrontModel", name := "firstFault", desc := "()I" } : Jvm.MethodName) prog_8_method_63_code (5 : Nat) (Option.some Jvm.ClassFile.FieldType.int)) ∈ wG := wg_in (wt_5 (List.mem_of_getElem? (i := 161) rfl)) rfl
theorem tw_1122 : (Jvm.Cond.methodLink "DeckFrontModel" (345 : Nat) ({ cls := "DeckFrontModel", name := "early", desc := "(IIZ)I" } : Jvm.MethodName)) ∈ wG := wg_in (wt_5 (List.mem_of_getElem? (i := 162) rfl)) rfl
theorem tw_1124 : (Jvm.Cond.instanceMethod ({ cls := "DeckFrontModel", name := "early", desc := "(IIZ)I" } : Jvm.MethodName)) ∈ wG := wg_in (wt_5 (List.mem_of_getElem? (i := 164) rfl)) rfl
theorem tw_1125 : (Jvm.Cond.code ({ cls := "DeckFrontModel", name := "early", desc := "(IIZ)I" } : Jvm.MethodName) prog_8_method_61_code (7 : Nat) (Option.some Jvm.ClassFile.FieldType.int)) ∈ wG := wg_in (wt_5 (List.mem_of_getElem? (i := 165) rfl)) rfl
theorem tw_1126 : (Jvm.Cond.methodLink "DeckFrontModel" (339 : Nat) ({ cls := "DeckFrontModel", name := "isOpen", desc := "(I)Z" } : Jvm.MethodName)) ∈ wG := wg_in (wt_5 (List.mem_of_getElem? (i := 166) rfl)) rfl
theorem tw_1128 : (Jvm.Cond.instanceMethod ({ cls := "DeckFrontModel", name := "isOpen", desc := "(I)Z" } : Jvm.MethodName)) ∈ wG := wg_in (wt_5 (List.mem_of_getElem? (i := 168) rfl)) rfl
theorem tw_1129 : (Jvm.Cond.code ({ cls := "DeckFrontModel", name := "isOpen", desc := "(I)Z" } : Jvm.MethodName) prog_8_method_60_code (4 : Nat) (Option.some Jvm.ClassFile.FieldType.boolean)) ∈ wG := wg_in (wt_5 (List.mem_of_getElem? (i := 169) rfl)) rfl
theorem tw_1130 : (Jvm.Cond.methodLink "DeckFrontModel" (349 : Nat) ({ cls := "DeckFrontModel", name := "later", desc := "(II)I" } : Jvm.MethodName)) ∈ wG := wg_in (wt_5 (List.mem_of_getElem? (i := 170) rfl)) rfl
theorem tw_1132 : (Jvm.Cond.instanceMethod ({ cls := "DeckFrontModel", name := "later", desc := "(II)I" } : Jvm.MethodName)) ∈ wG := wg_in (wt_5 (List.mem_of_getElem? (i := 172) rfl)) rfl
theorem tw_1133 : (Jvm.Cond.code ({ cls := "DeckFrontModel", name := "later", desc := "(II)I" } : Jvm.MethodName) prog_8_method_62_code (4 : Nat) (Option.some Jvm.ClassFile.FieldType.int)) ∈ wG := wg_in (wt_5 (List.mem_of_getElem? (i := 173) rfl)) rfl
theorem tw_1134 : (Jvm.Cond.methodLink "DeckFrontModel" (342 : Nat) ({ cls := "DeckFrontModel", name := "isLabel", desc := "(II)Z" } : Jvm.MethodName)) ∈ wG := wg_in (wt_5 (List.mem_of_getElem? (i := 174) rfl)) rfl
theorem tw_1136 : (Jvm.Cond.instanceMethod ({ cls := "DeckFrontModel", name := "isLabel", desc := "(II)Z" } : Jvm.MethodName)) ∈ wG := wg_in (wt_5 (List.mem_of_getElem? (i := 176) rfl)) rfl
theorem tw_1137 : (Jvm.Cond.code ({ cls := "DeckFrontModel", name := "isLabel", desc := "(II)Z" } : Jvm.MethodName) prog_8_method_59_code (5 : Nat) (Option.some Jvm.ClassFile.FieldType.boolean)) ∈ wG := wg_in (wt_5 (List.mem_of_getElem? (i := 177) rfl)) rfl
theorem tw_1138 : (Jvm.Cond.methodLink "DeckFrontLaw" (75 : Nat) ({ cls := "DeckFrontModel", name := "faultAt", desc := "()I" } : Jvm.MethodName)) ∈ wG := wg_in (wt_5 (List.mem_of_getElem? (i := 178) rfl)) rfl
theorem tw_1139 : (Jvm.Cond.instanceMethod ({ cls := "DeckFrontModel", name := "faultAt", desc := "()I" } : Jvm.MethodName)) ∈ wG := wg_in (wt_5 (List.mem_of_getElem? (i := 179) rfl)) rfl
theorem tw_1140 : (Jvm.Cond.selects "DeckFrontModel" ({ cls := "DeckFrontModel", name := "faultAt", desc := "()I" } : Jvm.MethodName) ({ cls := "DeckFrontModel", name := "faultAt", desc := "()I" } : Jvm.MethodName)) ∈ wG := wg_in (wt_5 (List.mem_of_getElem? (i := 180) rfl)) rfl
theorem tw_1141 : (Jvm.Cond.code ({ cls := "DeckFrontModel", name := "faultAt", desc := "()I" } : Jvm.MethodName) prog_8_method_65_code (2 : Nat) (Option.some Jvm.ClassFile.FieldType.int)) ∈ wG := wg_in (wt_5 (List.mem_of_getElem? (i := 181) rfl)) rfl
theorem tw_1142 : (Jvm.Cond.constantLong "DeckFrontLaw" (21 : Nat) (4294967295 : Int64)) ∈ wG := wg_in (wt_5 (List.mem_of_getElem? (i := 182) rfl)) rfl
theorem tw_1143 : (Jvm.Cond.sameMethod "DeckFront$Tape" "DeckFront$Tape" "nameAt" "(I)J") ∈ wG := wg_in (wt_5 (List.mem_of_getElem? (i := 183) rfl)) rfl
theorem tw_1144 : (Jvm.Cond.sameMethod "java/lang/Throwable" "java/lang/Throwable" "fillInStackTrace" "(I)Ljava/lang/Throwable;") ∈ wG := wg_in (wt_5 (List.mem_of_getElem? (i := 184) rfl)) rfl
theorem tw_1145 : (Jvm.Cond.sameMethod "DeckFront$Tape" "DeckFront$Tape" "digitsEnd" "(I)I") ∈ wG := wg_in (wt_5 (List.mem_of_getElem? (i := 185) rfl)) rfl
theorem tw_1146 : (Jvm.Cond.sameMethod "DeckFront$Tape" "DeckFront$Tape" "standsLogicalWord" "(I)Z") ∈ wG := wg_in (wt_5 (List.mem_of_getElem? (i := 186) rfl)) rfl
theorem tw_1147 : (Jvm.Cond.fieldLink "java/lang/String" (15 : Nat) "java/lang/String" "coder" "B") ∈ wG := wg_in (wt_5 (List.mem_of_getElem? (i := 187) rfl)) rfl
theorem tw_1148 : (Jvm.Cond.fieldLink "java/lang/String" (9 : Nat) "java/lang/String" "value" "[B") ∈ wG := wg_in (wt_5 (List.mem_of_getElem? (i := 188) rfl)) rfl
theorem tp_1_0 : Jvm.Cond.selects "DeckFront$Structure" ({ cls := "DeckFront$Structure", name := "faultOf", desc := "(LDeckFront$Deck;I)I" } : Jvm.MethodName) ({ cls := "DeckFront$Structure", name := "faultOf", desc := "(LDeckFront$Deck;I)I" } : Jvm.MethodName) ∈ wG := wg_in (List.mem_append_left _ (List.mem_map.mpr ⟨_, (List.mem_append_left _ (List.mem_of_getElem? (i := 0) rfl)), rfl⟩)) rfl
theorem tp_1_1 : Jvm.Cond.selects "DeckFront$Structure" ({ cls := "DeckFront$Structure", name := "branchFits", desc := "(LDeckFront$Statement;)Z" } : Jvm.MethodName) ({ cls := "DeckFront$Structure", name := "branchFits", desc := "(LDeckFront$Statement;)Z" } : Jvm.MethodName) ∈ wG := wg_in (List.mem_append_left _ (List.mem_map.mpr ⟨_, (List.mem_append_left _ (List.mem_of_getElem? (i := 1) rfl)), rfl⟩)) rfl
theorem tp_1_2 : Jvm.Cond.selects "DeckFront$Structure" ({ cls := "DeckFront$Structure", name := "innermost", desc := "()I" } : Jvm.MethodName) ({ cls := "DeckFront$Structure", name := "innermost", desc := "()I" } : Jvm.MethodName) ∈ wG := wg_in (List.mem_append_left _ (List.mem_map.mpr ⟨_, (List.mem_append_left _ (List.mem_of_getElem? (i := 2) rfl)), rfl⟩)) rfl
theorem tp_1_3 : Jvm.Cond.selects "DeckFront$Structure" ({ cls := "DeckFront$Structure", name := "isOpen", desc := "(I)Z" } : Jvm.MethodName) ({ cls := "DeckFront$Structure", name := "isOpen", desc := "(I)Z" } : Jvm.MethodName) ∈ wG := wg_in (List.mem_append_left _ (List.mem_map.mpr ⟨_, (List.mem_append_left _ (List.mem_of_getElem? (i := 3) rfl)), rfl⟩)) rfl
theorem tp_1_4 : Jvm.Cond.selects "DeckFront$Structure" ({ cls := "DeckFront$Structure", name := "endWhatEnds", desc := "(LDeckFront$Statement;)V" } : Jvm.MethodName) ({ cls := "DeckFront$Structure", name := "endWhatEnds", desc := "(LDeckFront$Statement;)V" } : Jvm.MethodName) ∈ wG := wg_in (List.mem_append_left _ (List.mem_map.mpr ⟨_, (List.mem_append_left _ (List.mem_of_getElem? (i := 4) rfl)), rfl⟩)) rfl
theorem tp_1_5 : Jvm.Cond.selects "DeckFront$Structure" ({ cls := "DeckFront$Structure", name := "hasItsLabels", desc := "(LDeckFront$Deck;I)Z" } : Jvm.MethodName) ({ cls := "DeckFront$Structure", name := "hasItsLabels", desc := "(LDeckFront$Deck;I)Z" } : Jvm.MethodName) ∈ wG := wg_in (List.mem_append_left _ (List.mem_map.mpr ⟨_, (List.mem_append_left _ (List.mem_of_getElem? (i := 5) rfl)), rfl⟩)) rfl
theorem tp_1_6 : Jvm.Cond.selects "DeckFront$Structure" ({ cls := "DeckFront$Structure", name := "openWhatOpens", desc := "(LDeckFront$Statement;)V" } : Jvm.MethodName) ({ cls := "DeckFront$Structure", name := "openWhatOpens", desc := "(LDeckFront$Statement;)V" } : Jvm.MethodName) ∈ wG := wg_in (List.mem_append_left _ (List.mem_map.mpr ⟨_, (List.mem_append_left _ (List.mem_of_getElem? (i := 6) rfl)), rfl⟩)) rfl
theorem tp_1_7 : Jvm.Cond.selects "DeckFront$Deck" ({ cls := "DeckFront$Deck", name := "carryOn", desc := "(LDeckFront$Card;)I" } : Jvm.MethodName) ({ cls := "DeckFront$Deck", name := "carryOn", desc := "(LDeckFront$Card;)I" } : Jvm.MethodName) ∈ wG := wg_in (List.mem_append_left _ (List.mem_map.mpr ⟨_, (List.mem_append_left _ (List.mem_of_getElem? (i := 7) rfl)), rfl⟩)) rfl
theorem tp_1_8 : Jvm.Cond.selects "DeckFront$Deck" ({ cls := "DeckFront$Deck", name := "begin", desc := "(LDeckFront$Card;)I" } : Jvm.MethodName) ({ cls := "DeckFront$Deck", name := "begin", desc := "(LDeckFront$Card;)I" } : Jvm.MethodName) ∈ wG := wg_in (List.mem_append_left _ (List.mem_map.mpr ⟨_, (List.mem_append_left _ (List.mem_of_getElem? (i := 8) rfl)), rfl⟩)) rfl
theorem tp_1_9 : Jvm.Cond.selects "java/lang/Throwable" ({ cls := "java/lang/Throwable", name := "fillInStackTrace", desc := "(I)Ljava/lang/Throwable;" } : Jvm.MethodName) ({ cls := "java/lang/Throwable", name := "fillInStackTrace", desc := "(I)Ljava/lang/Throwable;" } : Jvm.MethodName) ∈ wG := wg_in (List.mem_append_left _ (List.mem_map.mpr ⟨_, (List.mem_append_left _ (List.mem_of_getElem? (i := 9) rfl)), rfl⟩)) rfl
theorem tp_1_10 : Jvm.Cond.selects "DeckFront$Statement" ({ cls := "DeckFront$Statement", name := "firstThatFits", desc := "(I)I" } : Jvm.MethodName) ({ cls := "DeckFront$Statement", name := "firstThatFits", desc := "(I)I" } : Jvm.MethodName) ∈ wG := wg_in (List.mem_append_left _ (List.mem_map.mpr ⟨_, (List.mem_append_left _ (List.mem_of_getElem? (i := 10) rfl)), rfl⟩)) rfl
theorem tp_1_11 : Jvm.Cond.selects "DeckFront$Statement" ({ cls := "DeckFront$Statement", name := "fits", desc := "(I)Z" } : Jvm.MethodName) ({ cls := "DeckFront$Statement", name := "fits", desc := "(I)Z" } : Jvm.MethodName) ∈ wG := wg_in (List.mem_append_left _ (List.mem_map.mpr ⟨_, (List.mem_append_left _ (List.mem_of_getElem? (i := 11) rfl)), rfl⟩)) rfl
theorem tp_1_12 : Jvm.Cond.selects "DeckFront$Statement" ({ cls := "DeckFront$Statement", name := "expression", desc := "(II)Z" } : Jvm.MethodName) ({ cls := "DeckFront$Statement", name := "expression", desc := "(II)Z" } : Jvm.MethodName) ∈ wG := wg_in (List.mem_append_left _ (List.mem_map.mpr ⟨_, (List.mem_append_left _ (List.mem_of_getElem? (i := 12) rfl)), rfl⟩)) rfl
theorem tp_1_13 : Jvm.Cond.selects "DeckFront$Statement" ({ cls := "DeckFront$Statement", name := "power", desc := "(I)Z" } : Jvm.MethodName) ({ cls := "DeckFront$Statement", name := "power", desc := "(I)Z" } : Jvm.MethodName) ∈ wG := wg_in (List.mem_append_left _ (List.mem_map.mpr ⟨_, (List.mem_append_left _ (List.mem_of_getElem? (i := 13) rfl)), rfl⟩)) rfl
theorem tp_1_14 : Jvm.Cond.selects "DeckFront$Statement" ({ cls := "DeckFront$Statement", name := "primary", desc := "(I)Z" } : Jvm.MethodName) ({ cls := "DeckFront$Statement", name := "primary", desc := "(I)Z" } : Jvm.MethodName) ∈ wG := wg_in (List.mem_append_left _ (List.mem_map.mpr ⟨_, (List.mem_append_left _ (List.mem_of_getElem? (i := 14) rfl)), rfl⟩)) rfl
theorem tp_1_15 : Jvm.Cond.selects "DeckFront$Statement" ({ cls := "DeckFront$Statement", name := "group", desc := "(I)Z" } : Jvm.MethodName) ({ cls := "DeckFront$Statement", name := "group", desc := "(I)Z" } : Jvm.MethodName) ∈ wG := wg_in (List.mem_append_left _ (List.mem_map.mpr ⟨_, (List.mem_append_left _ (List.mem_of_getElem? (i := 15) rfl)), rfl⟩)) rfl
theorem tp_2_0 : Jvm.Cond.selects "DeckFront$Statement" ({ cls := "DeckFront$Statement", name := "reference", desc := "(IZ)Z" } : Jvm.MethodName) ({ cls := "DeckFront$Statement", name := "reference", desc := "(IZ)Z" } : Jvm.MethodName) ∈ wG := wg_in (List.mem_append_left _ (List.mem_map.mpr ⟨_, (List.mem_append_right _ (List.mem_append_left _ (List.mem_of_getElem? (i := 0) rfl))), rfl⟩)) rfl
theorem tp_2_1 : Jvm.Cond.selects "DeckFront$Statement" ({ cls := "DeckFront$Statement", name := "list", desc := "(I)Z" } : Jvm.MethodName) ({ cls := "DeckFront$Statement", name := "list", desc := "(I)Z" } : Jvm.MethodName) ∈ wG := wg_in (List.mem_append_left _ (List.mem_map.mpr ⟨_, (List.mem_append_right _ (List.mem_append_left _ (List.mem_of_getElem? (i := 1) rfl))), rfl⟩)) rfl
theorem tp_2_2 : Jvm.Cond.selects "DeckFront$Statement" ({ cls := "DeckFront$Statement", name := "expressions", desc := "(I)Z" } : Jvm.MethodName) ({ cls := "DeckFront$Statement", name := "expressions", desc := "(I)Z" } : Jvm.MethodName) ∈ wG := wg_in (List.mem_append_left _ (List.mem_map.mpr ⟨_, (List.mem_append_right _ (List.mem_append_left _ (List.mem_of_getElem? (i := 2) rfl))), rfl⟩)) rfl
theorem tp_2_3 : Jvm.Cond.selects "DeckFront$Statement" ({ cls := "DeckFront$Statement", name := "takeSignsBefore", desc := "(I)I" } : Jvm.MethodName) ({ cls := "DeckFront$Statement", name := "takeSignsBefore", desc := "(I)I" } : Jvm.MethodName) ∈ wG := wg_in (List.mem_append_left _ (List.mem_map.mpr ⟨_, (List.mem_append_right _ (List.mem_append_left _ (List.mem_of_getElem? (i := 3) rfl))), rfl⟩)) rfl
theorem tp_2_4 : Jvm.Cond.selects "DeckFront$Statement" ({ cls := "DeckFront$Statement", name := "takeSignBetween", desc := "(I)Z" } : Jvm.MethodName) ({ cls := "DeckFront$Statement", name := "takeSignBetween", desc := "(I)Z" } : Jvm.MethodName) ∈ wG := wg_in (List.mem_append_left _ (List.mem_map.mpr ⟨_, (List.mem_append_right _ (List.mem_append_left _ (List.mem_of_getElem? (i := 4) rfl))), rfl⟩)) rfl
theorem tp_2_5 : Jvm.Cond.selects "DeckFront$Statement" ({ cls := "DeckFront$Statement", name := "series", desc := "(I)Z" } : Jvm.MethodName) ({ cls := "DeckFront$Statement", name := "series", desc := "(I)Z" } : Jvm.MethodName) ∈ wG := wg_in (List.mem_append_left _ (List.mem_map.mpr ⟨_, (List.mem_append_right _ (List.mem_append_left _ (List.mem_of_getElem? (i := 5) rfl))), rfl⟩)) rfl
theorem tp_2_6 : Jvm.Cond.selects "DeckFront$Statement" ({ cls := "DeckFront$Statement", name := "item", desc := "(I)Z" } : Jvm.MethodName) ({ cls := "DeckFront$Statement", name := "item", desc := "(I)Z" } : Jvm.MethodName) ∈ wG := wg_in (List.mem_append_left _ (List.mem_map.mpr ⟨_, (List.mem_append_right _ (List.mem_append_left _ (List.mem_of_getElem? (i := 6) rfl))), rfl⟩)) rfl
theorem tp_2_7 : Jvm.Cond.selects "DeckFrontModel" ({ cls := "DeckFrontModel", name := "isComment", desc := "()Z" } : Jvm.MethodName) ({ cls := "DeckFrontModel", name := "isComment", desc := "()Z" } : Jvm.MethodName) ∈ wG := wg_in (List.mem_append_left _ (List.mem_map.mpr ⟨_, (List.mem_append_right _ (List.mem_append_left _ (List.mem_of_getElem? (i := 7) rfl))), rfl⟩)) rfl
theorem tp_2_8 : Jvm.Cond.selects "DeckFrontModel" ({ cls := "DeckFrontModel", name := "joined", desc := "(I)I" } : Jvm.MethodName) ({ cls := "DeckFrontModel", name := "joined", desc := "(I)I" } : Jvm.MethodName) ∈ wG := wg_in (List.mem_append_left _ (List.mem_map.mpr ⟨_, (List.mem_append_right _ (List.mem_append_left _ (List.mem_of_getElem? (i := 8) rfl))), rfl⟩)) rfl
theorem tp_2_9 : Jvm.Cond.selects "DeckFrontModel" ({ cls := "DeckFrontModel", name := "inQuote", desc := "(I)Z" } : Jvm.MethodName) ({ cls := "DeckFrontModel", name := "inQuote", desc := "(I)Z" } : Jvm.MethodName) ∈ wG := wg_in (List.mem_append_left _ (List.mem_map.mpr ⟨_, (List.mem_append_right _ (List.mem_append_left _ (List.mem_of_getElem? (i := 9) rfl))), rfl⟩)) rfl
theorem tp_2_10 : Jvm.Cond.selects "DeckFrontModel" ({ cls := "DeckFrontModel", name := "there", desc := "(I)Z" } : Jvm.MethodName) ({ cls := "DeckFrontModel", name := "there", desc := "(I)Z" } : Jvm.MethodName) ∈ wG := wg_in (List.mem_append_left _ (List.mem_map.mpr ⟨_, (List.mem_append_right _ (List.mem_append_left _ (List.mem_of_getElem? (i := 10) rfl))), rfl⟩)) rfl
theorem tp_2_11 : Jvm.Cond.selects "DeckFrontModel" ({ cls := "DeckFrontModel", name := "read", desc := "(I)I" } : Jvm.MethodName) ({ cls := "DeckFrontModel", name := "read", desc := "(I)I" } : Jvm.MethodName) ∈ wG := wg_in (List.mem_append_left _ (List.mem_map.mpr ⟨_, (List.mem_append_right _ (List.mem_append_left _ (List.mem_of_getElem? (i := 11) rfl))), rfl⟩)) rfl
theorem tp_2_12 : Jvm.Cond.selects "DeckFrontModel" ({ cls := "DeckFrontModel", name := "isIf", desc := "()Z" } : Jvm.MethodName) ({ cls := "DeckFrontModel", name := "isIf", desc := "()Z" } : Jvm.MethodName) ∈ wG := wg_in (List.mem_append_left _ (List.mem_map.mpr ⟨_, (List.mem_append_right _ (List.mem_append_left _ (List.mem_of_getElem? (i := 12) rfl))), rfl⟩)) rfl
theorem tp_2_13 : Jvm.Cond.selects "DeckFrontModel" ({ cls := "DeckFrontModel", name := "word", desc := "(J)Z" } : Jvm.MethodName) ({ cls := "DeckFrontModel", name := "word", desc := "(J)Z" } : Jvm.MethodName) ∈ wG := wg_in (List.mem_append_left _ (List.mem_map.mpr ⟨_, (List.mem_append_right _ (List.mem_append_left _ (List.mem_of_getElem? (i := 13) rfl))), rfl⟩)) rfl
theorem tp_2_14 : Jvm.Cond.selects "DeckFrontModel" ({ cls := "DeckFrontModel", name := "at", desc := "(I)I" } : Jvm.MethodName) ({ cls := "DeckFrontModel", name := "at", desc := "(I)I" } : Jvm.MethodName) ∈ wG := wg_in (List.mem_append_left _ (List.mem_map.mpr ⟨_, (List.mem_append_right _ (List.mem_append_left _ (List.mem_of_getElem? (i := 14) rfl))), rfl⟩)) rfl
theorem tp_2_15 : Jvm.Cond.selects "DeckFrontModel" ({ cls := "DeckFrontModel", name := "putPart", desc := "(II)V" } : Jvm.MethodName) ({ cls := "DeckFrontModel", name := "putPart", desc := "(II)V" } : Jvm.MethodName) ∈ wG := wg_in (List.mem_append_left _ (List.mem_map.mpr ⟨_, (List.mem_append_right _ (List.mem_append_left _ (List.mem_of_getElem? (i := 15) rfl))), rfl⟩)) rfl
theorem tp_3_0 : Jvm.Cond.selects "DeckFrontModel" ({ cls := "DeckFrontModel", name := "put", desc := "(I)V" } : Jvm.MethodName) ({ cls := "DeckFrontModel", name := "put", desc := "(I)V" } : Jvm.MethodName) ∈ wG := wg_in (List.mem_append_left _ (List.mem_map.mpr ⟨_, (List.mem_append_right _ (List.mem_append_right _ (List.mem_append_left _ (List.mem_of_getElem? (i := 0) rfl)))), rfl⟩)) rfl
theorem tp_3_1 : Jvm.Cond.selects "DeckFrontModel" ({ cls := "DeckFrontModel", name := "expression", desc := "(I)Z" } : Jvm.MethodName) ({ cls := "DeckFrontModel", name := "expression", desc := "(I)Z" } : Jvm.MethodName) ∈ wG := wg_in (List.mem_append_left _ (List.mem_map.mpr ⟨_, (List.mem_append_right _ (List.mem_append_right _ (List.mem_append_left _ (List.mem_of_getElem? (i := 1) rfl)))), rfl⟩)) rfl
theorem tp_3_2 : Jvm.Cond.selects "DeckFrontModel" ({ cls := "DeckFrontModel", name := "wanted", desc := "(II)I" } : Jvm.MethodName) ({ cls := "DeckFrontModel", name := "wanted", desc := "(II)I" } : Jvm.MethodName) ∈ wG := wg_in (List.mem_append_left _ (List.mem_map.mpr ⟨_, (List.mem_append_right _ (List.mem_append_right _ (List.mem_append_left _ (List.mem_of_getElem? (i := 2) rfl)))), rfl⟩)) rfl
theorem tp_3_3 : Jvm.Cond.selects "DeckFrontModel" ({ cls := "DeckFrontModel", name := "numberEnd", desc := "(I)I" } : Jvm.MethodName) ({ cls := "DeckFrontModel", name := "numberEnd", desc := "(I)I" } : Jvm.MethodName) ∈ wG := wg_in (List.mem_append_left _ (List.mem_map.mpr ⟨_, (List.mem_append_right _ (List.mem_append_right _ (List.mem_append_left _ (List.mem_of_getElem? (i := 3) rfl)))), rfl⟩)) rfl
theorem tp_3_4 : Jvm.Cond.selects "DeckFrontModel" ({ cls := "DeckFrontModel", name := "dots", desc := "(I)I" } : Jvm.MethodName) ({ cls := "DeckFrontModel", name := "dots", desc := "(I)I" } : Jvm.MethodName) ∈ wG := wg_in (List.mem_append_left _ (List.mem_map.mpr ⟨_, (List.mem_append_right _ (List.mem_append_right _ (List.mem_append_left _ (List.mem_of_getElem? (i := 4) rfl)))), rfl⟩)) rfl
theorem tp_3_5 : Jvm.Cond.selects "DeckFrontModel" ({ cls := "DeckFrontModel", name := "nameEnd", desc := "(I)I" } : Jvm.MethodName) ({ cls := "DeckFrontModel", name := "nameEnd", desc := "(I)I" } : Jvm.MethodName) ∈ wG := wg_in (List.mem_append_left _ (List.mem_map.mpr ⟨_, (List.mem_append_right _ (List.mem_append_right _ (List.mem_append_left _ (List.mem_of_getElem? (i := 5) rfl)))), rfl⟩)) rfl
theorem tp_3_6 : Jvm.Cond.selects "DeckFrontModel" ({ cls := "DeckFrontModel", name := "part", desc := "(IIIII)I" } : Jvm.MethodName) ({ cls := "DeckFrontModel", name := "part", desc := "(IIIII)I" } : Jvm.MethodName) ∈ wG := wg_in (List.mem_append_left _ (List.mem_map.mpr ⟨_, (List.mem_append_right _ (List.mem_append_right _ (List.mem_append_left _ (List.mem_of_getElem? (i := 6) rfl)))), rfl⟩)) rfl
theorem tp_3_7 : Jvm.Cond.selects "DeckFrontModel" ({ cls := "DeckFrontModel", name := "value", desc := "(I)V" } : Jvm.MethodName) ({ cls := "DeckFrontModel", name := "value", desc := "(I)V" } : Jvm.MethodName) ∈ wG := wg_in (List.mem_append_left _ (List.mem_map.mpr ⟨_, (List.mem_append_right _ (List.mem_append_right _ (List.mem_append_left _ (List.mem_of_getElem? (i := 7) rfl)))), rfl⟩)) rfl
theorem tp_3_8 : Jvm.Cond.selects "DeckFrontModel" ({ cls := "DeckFrontModel", name := "use", desc := "(IIII)V" } : Jvm.MethodName) ({ cls := "DeckFrontModel", name := "use", desc := "(IIII)V" } : Jvm.MethodName) ∈ wG := wg_in (List.mem_append_left _ (List.mem_map.mpr ⟨_, (List.mem_append_right _ (List.mem_append_right _ (List.mem_append_left _ (List.mem_of_getElem? (i := 8) rfl)))), rfl⟩)) rfl
theorem tp_3_9 : Jvm.Cond.selects "DeckFrontModel" ({ cls := "DeckFrontModel", name := "push", desc := "(IIIZ)V" } : Jvm.MethodName) ({ cls := "DeckFrontModel", name := "push", desc := "(IIIZ)V" } : Jvm.MethodName) ∈ wG := wg_in (List.mem_append_left _ (List.mem_map.mpr ⟨_, (List.mem_append_right _ (List.mem_append_right _ (List.mem_append_left _ (List.mem_of_getElem? (i := 9) rfl)))), rfl⟩)) rfl
theorem tp_3_10 : Jvm.Cond.selects "DeckFrontModel" ({ cls := "DeckFrontModel", name := "dotted", desc := "(I)I" } : Jvm.MethodName) ({ cls := "DeckFrontModel", name := "dotted", desc := "(I)I" } : Jvm.MethodName) ∈ wG := wg_in (List.mem_append_left _ (List.mem_map.mpr ⟨_, (List.mem_append_right _ (List.mem_append_right _ (List.mem_append_left _ (List.mem_of_getElem? (i := 10) rfl)))), rfl⟩)) rfl
theorem tp_3_11 : Jvm.Cond.selects "DeckFrontModel" ({ cls := "DeckFrontModel", name := "between", desc := "()I" } : Jvm.MethodName) ({ cls := "DeckFrontModel", name := "between", desc := "()I" } : Jvm.MethodName) ∈ wG := wg_in (List.mem_append_left _ (List.mem_map.mpr ⟨_, (List.mem_append_right _ (List.mem_append_right _ (List.mem_append_left _ (List.mem_of_getElem? (i := 11) rfl)))), rfl⟩)) rfl
theorem tp_3_12 : Jvm.Cond.selects "DeckFrontModel" ({ cls := "DeckFrontModel", name := "related", desc := "()Z" } : Jvm.MethodName) ({ cls := "DeckFrontModel", name := "related", desc := "()Z" } : Jvm.MethodName) ∈ wG := wg_in (List.mem_append_left _ (List.mem_map.mpr ⟨_, (List.mem_append_right _ (List.mem_append_right _ (List.mem_append_left _ (List.mem_of_getElem? (i := 12) rfl)))), rfl⟩)) rfl
theorem tp_3_13 : Jvm.Cond.selects "DeckFrontModel" ({ cls := "DeckFrontModel", name := "reduce", desc := "(I)V" } : Jvm.MethodName) ({ cls := "DeckFrontModel", name := "reduce", desc := "(I)V" } : Jvm.MethodName) ∈ wG := wg_in (List.mem_append_left _ (List.mem_map.mpr ⟨_, (List.mem_append_right _ (List.mem_append_right _ (List.mem_append_left _ (List.mem_of_getElem? (i := 13) rfl)))), rfl⟩)) rfl
theorem tp_3_14 : Jvm.Cond.selects "DeckFrontModel" ({ cls := "DeckFrontModel", name := "print", desc := "(I)V" } : Jvm.MethodName) ({ cls := "DeckFrontModel", name := "print", desc := "(I)V" } : Jvm.MethodName) ∈ wG := wg_in (List.mem_append_left _ (List.mem_map.mpr ⟨_, (List.mem_append_right _ (List.mem_append_right _ (List.mem_append_left _ (List.mem_of_getElem? (i := 14) rfl)))), rfl⟩)) rfl
theorem tp_3_15 : Jvm.Cond.selects "DeckFrontModel" ({ cls := "DeckFrontModel", name := "joins", desc := "()V" } : Jvm.MethodName) ({ cls := "DeckFrontModel", name := "joins", desc := "()V" } : Jvm.MethodName) ∈ wG := wg_in (List.mem_append_left _ (List.mem_map.mpr ⟨_, (List.mem_append_right _ (List.mem_append_right _ (List.mem_append_left _ (List.mem_of_getElem? (i := 15) rfl)))), rfl⟩)) rfl
theorem tp_4_0 : Jvm.Cond.selects "DeckFrontModel" ({ cls := "DeckFrontModel", name := "sign", desc := "(I)Z" } : Jvm.MethodName) ({ cls := "DeckFrontModel", name := "sign", desc := "(I)Z" } : Jvm.MethodName) ∈ wG := wg_in (List.mem_append_left _ (List.mem_map.mpr ⟨_, (List.mem_append_right _ (List.mem_append_right _ (List.mem_append_right _ (List.mem_append_left _ (List.mem_of_getElem? (i := 0) rfl))))), rfl⟩)) rfl
theorem tp_4_1 : Jvm.Cond.selects "DeckFrontModel" ({ cls := "DeckFrontModel", name := "behind", desc := "()I" } : Jvm.MethodName) ({ cls := "DeckFrontModel", name := "behind", desc := "()I" } : Jvm.MethodName) ∈ wG := wg_in (List.mem_append_left _ (List.mem_map.mpr ⟨_, (List.mem_append_right _ (List.mem_append_right _ (List.mem_append_right _ (List.mem_append_left _ (List.mem_of_getElem? (i := 1) rfl))))), rfl⟩)) rfl
theorem tp_4_2 : Jvm.Cond.selects "DeckFrontModel" ({ cls := "DeckFrontModel", name := "simple", desc := "(I)Z" } : Jvm.MethodName) ({ cls := "DeckFrontModel", name := "simple", desc := "(I)Z" } : Jvm.MethodName) ∈ wG := wg_in (List.mem_append_left _ (List.mem_map.mpr ⟨_, (List.mem_append_right _ (List.mem_append_right _ (List.mem_append_right _ (List.mem_append_left _ (List.mem_of_getElem? (i := 2) rfl))))), rfl⟩)) rfl
theorem tp_4_3 : Jvm.Cond.selects "DeckFrontModel" ({ cls := "DeckFrontModel", name := "isDo", desc := "()Z" } : Jvm.MethodName) ({ cls := "DeckFrontModel", name := "isDo", desc := "()Z" } : Jvm.MethodName) ∈ wG := wg_in (List.mem_append_left _ (List.mem_map.mpr ⟨_, (List.mem_append_right _ (List.mem_append_right _ (List.mem_append_right _ (List.mem_append_left _ (List.mem_of_getElem? (i := 3) rfl))))), rfl⟩)) rfl
theorem tp_4_4 : Jvm.Cond.selects "DeckFrontModel" ({ cls := "DeckFrontModel", name := "digits", desc := "(I)I" } : Jvm.MethodName) ({ cls := "DeckFrontModel", name := "digits", desc := "(I)I" } : Jvm.MethodName) ∈ wG := wg_in (List.mem_append_left _ (List.mem_map.mpr ⟨_, (List.mem_append_right _ (List.mem_append_right _ (List.mem_append_right _ (List.mem_append_left _ (List.mem_of_getElem? (i := 4) rfl))))), rfl⟩)) rfl
theorem tp_4_5 : Jvm.Cond.selects "DeckFrontModel" ({ cls := "DeckFrontModel", name := "comma", desc := "()V" } : Jvm.MethodName) ({ cls := "DeckFrontModel", name := "comma", desc := "()V" } : Jvm.MethodName) ∈ wG := wg_in (List.mem_append_left _ (List.mem_map.mpr ⟨_, (List.mem_append_right _ (List.mem_append_right _ (List.mem_append_right _ (List.mem_append_left _ (List.mem_of_getElem? (i := 5) rfl))))), rfl⟩)) rfl
theorem tp_4_6 : Jvm.Cond.selects "DeckFrontModel" ({ cls := "DeckFrontModel", name := "name", desc := "(II)Z" } : Jvm.MethodName) ({ cls := "DeckFrontModel", name := "name", desc := "(II)Z" } : Jvm.MethodName) ∈ wG := wg_in (List.mem_append_left _ (List.mem_map.mpr ⟨_, (List.mem_append_right _ (List.mem_append_right _ (List.mem_append_right _ (List.mem_append_left _ (List.mem_of_getElem? (i := 6) rfl))))), rfl⟩)) rfl
theorem tp_4_7 : Jvm.Cond.selects "DeckFrontModel" ({ cls := "DeckFrontModel", name := "isAssignment", desc := "()Z" } : Jvm.MethodName) ({ cls := "DeckFrontModel", name := "isAssignment", desc := "()Z" } : Jvm.MethodName) ∈ wG := wg_in (List.mem_append_left _ (List.mem_map.mpr ⟨_, (List.mem_append_right _ (List.mem_append_right _ (List.mem_append_right _ (List.mem_append_left _ (List.mem_of_getElem? (i := 7) rfl))))), rfl⟩)) rfl
theorem tp_4_8 : Jvm.Cond.selects "DeckFrontModel" ({ cls := "DeckFrontModel", name := "nameWithList", desc := "(II)Z" } : Jvm.MethodName) ({ cls := "DeckFrontModel", name := "nameWithList", desc := "(II)Z" } : Jvm.MethodName) ∈ wG := wg_in (List.mem_append_left _ (List.mem_map.mpr ⟨_, (List.mem_append_right _ (List.mem_append_right _ (List.mem_append_right _ (List.mem_append_left _ (List.mem_of_getElem? (i := 8) rfl))))), rfl⟩)) rfl
theorem tp_4_9 : Jvm.Cond.selects "DeckFrontModel" ({ cls := "DeckFrontModel", name := "expressions", desc := "(I)Z" } : Jvm.MethodName) ({ cls := "DeckFrontModel", name := "expressions", desc := "(I)Z" } : Jvm.MethodName) ∈ wG := wg_in (List.mem_append_left _ (List.mem_map.mpr ⟨_, (List.mem_append_right _ (List.mem_append_right _ (List.mem_append_right _ (List.mem_append_left _ (List.mem_of_getElem? (i := 9) rfl))))), rfl⟩)) rfl
theorem tp_4_10 : Jvm.Cond.selects "DeckFrontModel" ({ cls := "DeckFrontModel", name := "isThen", desc := "(J)Z" } : Jvm.MethodName) ({ cls := "DeckFrontModel", name := "isThen", desc := "(J)Z" } : Jvm.MethodName) ∈ wG := wg_in (List.mem_append_left _ (List.mem_map.mpr ⟨_, (List.mem_append_right _ (List.mem_append_right _ (List.mem_append_right _ (List.mem_append_left _ (List.mem_of_getElem? (i := 10) rfl))))), rfl⟩)) rfl
theorem tp_4_11 : Jvm.Cond.selects "DeckFrontModel" ({ cls := "DeckFrontModel", name := "alone", desc := "(JI)Z" } : Jvm.MethodName) ({ cls := "DeckFrontModel", name := "alone", desc := "(JI)Z" } : Jvm.MethodName) ∈ wG := wg_in (List.mem_append_left _ (List.mem_map.mpr ⟨_, (List.mem_append_right _ (List.mem_append_right _ (List.mem_append_right _ (List.mem_append_left _ (List.mem_of_getElem? (i := 11) rfl))))), rfl⟩)) rfl
theorem tp_4_12 : Jvm.Cond.selects "DeckFrontModel" ({ cls := "DeckFrontModel", name := "isGoTo", desc := "()Z" } : Jvm.MethodName) ({ cls := "DeckFrontModel", name := "isGoTo", desc := "()Z" } : Jvm.MethodName) ∈ wG := wg_in (List.mem_append_left _ (List.mem_map.mpr ⟨_, (List.mem_append_right _ (List.mem_append_right _ (List.mem_append_right _ (List.mem_append_left _ (List.mem_of_getElem? (i := 12) rfl))))), rfl⟩)) rfl
theorem tp_4_13 : Jvm.Cond.selects "DeckFrontModel" ({ cls := "DeckFrontModel", name := "isCall", desc := "()Z" } : Jvm.MethodName) ({ cls := "DeckFrontModel", name := "isCall", desc := "()Z" } : Jvm.MethodName) ∈ wG := wg_in (List.mem_append_left _ (List.mem_map.mpr ⟨_, (List.mem_append_right _ (List.mem_append_right _ (List.mem_append_right _ (List.mem_append_left _ (List.mem_of_getElem? (i := 13) rfl))))), rfl⟩)) rfl
theorem tp_4_14 : Jvm.Cond.selects "DeckFrontModel" ({ cls := "DeckFrontModel", name := "isType", desc := "()Z" } : Jvm.MethodName) ({ cls := "DeckFrontModel", name := "isType", desc := "()Z" } : Jvm.MethodName) ∈ wG := wg_in (List.mem_append_left _ (List.mem_map.mpr ⟨_, (List.mem_append_right _ (List.mem_append_right _ (List.mem_append_right _ (List.mem_append_left _ (List.mem_of_getElem? (i := 14) rfl))))), rfl⟩)) rfl
theorem tp_4_15 : Jvm.Cond.selects "DeckFrontModel" ({ cls := "DeckFrontModel", name := "isDimension", desc := "()Z" } : Jvm.MethodName) ({ cls := "DeckFrontModel", name := "isDimension", desc := "()Z" } : Jvm.MethodName) ∈ wG := wg_in (List.mem_append_left _ (List.mem_map.mpr ⟨_, (List.mem_append_right _ (List.mem_append_right _ (List.mem_append_right _ (List.mem_append_left _ (List.mem_of_getElem? (i := 15) rfl))))), rfl⟩)) rfl
theorem tp_5_0 : Jvm.Cond.selects "DeckFrontModel" ({ cls := "DeckFrontModel", name := "isComputed", desc := "()Z" } : Jvm.MethodName) ({ cls := "DeckFrontModel", name := "isComputed", desc := "()Z" } : Jvm.MethodName) ∈ wG := wg_in (List.mem_append_left _ (List.mem_map.mpr ⟨_, (List.mem_append_right _ (List.mem_append_right _ (List.mem_append_right _ (List.mem_append_right _ (List.mem_of_getElem? (i := 0) rfl))))), rfl⟩)) rfl
theorem tp_5_1 : Jvm.Cond.selects "DeckFrontModel" ({ cls := "DeckFrontModel", name := "firstFault", desc := "()I" } : Jvm.MethodName) ({ cls := "DeckFrontModel", name := "firstFault", desc := "()I" } : Jvm.MethodName) ∈ wG := wg_in (List.mem_append_left _ (List.mem_map.mpr ⟨_, (List.mem_append_right _ (List.mem_append_right _ (List.mem_append_right _ (List.mem_append_right _ (List.mem_of_getElem? (i := 1) rfl))))), rfl⟩)) rfl
theorem tp_5_2 : Jvm.Cond.selects "DeckFrontModel" ({ cls := "DeckFrontModel", name := "early", desc := "(IIZ)I" } : Jvm.MethodName) ({ cls := "DeckFrontModel", name := "early", desc := "(IIZ)I" } : Jvm.MethodName) ∈ wG := wg_in (List.mem_append_left _ (List.mem_map.mpr ⟨_, (List.mem_append_right _ (List.mem_append_right _ (List.mem_append_right _ (List.mem_append_right _ (List.mem_of_getElem? (i := 2) rfl))))), rfl⟩)) rfl
theorem tp_5_3 : Jvm.Cond.selects "DeckFrontModel" ({ cls := "DeckFrontModel", name := "isOpen", desc := "(I)Z" } : Jvm.MethodName) ({ cls := "DeckFrontModel", name := "isOpen", desc := "(I)Z" } : Jvm.MethodName) ∈ wG := wg_in (List.mem_append_left _ (List.mem_map.mpr ⟨_, (List.mem_append_right _ (List.mem_append_right _ (List.mem_append_right _ (List.mem_append_right _ (List.mem_of_getElem? (i := 3) rfl))))), rfl⟩)) rfl
theorem tp_5_4 : Jvm.Cond.selects "DeckFrontModel" ({ cls := "DeckFrontModel", name := "later", desc := "(II)I" } : Jvm.MethodName) ({ cls := "DeckFrontModel", name := "later", desc := "(II)I" } : Jvm.MethodName) ∈ wG := wg_in (List.mem_append_left _ (List.mem_map.mpr ⟨_, (List.mem_append_right _ (List.mem_append_right _ (List.mem_append_right _ (List.mem_append_right _ (List.mem_of_getElem? (i := 4) rfl))))), rfl⟩)) rfl
theorem tp_5_5 : Jvm.Cond.selects "DeckFrontModel" ({ cls := "DeckFrontModel", name := "isLabel", desc := "(II)Z" } : Jvm.MethodName) ({ cls := "DeckFrontModel", name := "isLabel", desc := "(II)Z" } : Jvm.MethodName) ∈ wG := wg_in (List.mem_append_left _ (List.mem_map.mpr ⟨_, (List.mem_append_right _ (List.mem_append_right _ (List.mem_append_right _ (List.mem_append_right _ (List.mem_of_getElem? (i := 5) rfl))))), rfl⟩)) rfl
end
section
section RL
/-- a method's end: an answer r and a state u of the world, with post; nothing else of what was there has changed -/
def xQ {S : Type} (D : va_G) (cl : List vw_C) (wd : S → va_W) (A : Nat → Prop) (post : Option Value → S → Prop) : Array Value → State → Outcome → State → Prop := fun _ st oc t => (∃ (r : Option Value) (u : S), oc = .returned r ∧ post r u ∧ va_P D cl (wd u) t.heap ∧ va_D A (wd u)) ∧ va_F A st t
def xB {S : Type} (D : va_G) (cl : List vw_C) (tys : List (ClassId × FieldType)) (Ev : (Nat → Prop) → State → Prop) (wd : S → va_W) (u : S) (sz : Nat) (U : State) : Prop := U.heap.size = sz ∧ va_P D cl (wd u) U.heap ∧ va_K D cl tys U ∧ va_D (fun _ => True) (wd u) ∧ Ev (va_A (wd u) sz) U
/-- the contract of a method at the arguments av and the state u -/
def xC {S : Type} (l : Launch) (D : va_G) (cl : List vw_C) (tys : List (ClassId × FieldType)) (Ev : (Nat → Prop) → State → Prop) (y : MethodName) (ws : List Cond) (rm : Room) (wd : S → va_W) (av : List Value) (u : S) (post : Option Value → S → Prop) (mc ms : Nat) : Prop := ∀ sz : Nat, Met l y ws rm (va_Pc av (xB D cl tys Ev wd u sz)) (xQ D cl wd (va_A (wd u) sz) post) mc ms (va_A (wd u) sz)
def xX (D : va_G) (cl : List vw_C) (tys : List (ClassId × FieldType)) (Ev : (Nat → Prop) → State → Prop) (own : String) (cc : ByteArray) (nL : Nat) (Ts : List Cond) (ret : Option FieldType) (p : Program) (s : State) (m : MethodId) (args : Array Value) (meth : Method) (c : Code) (A : Nat → Prop) : Prop :=
  p.tables.exec = Jvm.exec ∧ c.code = cc ∧ c.maxLocals = nL ∧ s.vm.findClass own = some m.cls ∧ (∀ w ∈ Ts, w.before args s = true) ∧ va_K D cl tys s ∧ Ev A s ∧ meth.locks = false ∧ meth.sig.returnType = ret ∧ ∀ q, s.heap.size ≤ q → A q
/-- the machine in a method, at pc, with the locals lv, the operands st and the world's state u, comes to an end with post -/
def RR {S : Type} (l : Launch) (D : va_G) (cl : List vw_C) (tys : List (ClassId × FieldType)) (Ev : (Nat → Prop) → State → Prop) (own : String) (cc : ByteArray) (nL : Nat) (Ts : List Cond) (rm : Room) (ret : Option FieldType) (wd : S → va_W) (post : Option Value → S → Prop) (mc ms kc ks : Nat) (pc : Nat) (lv : List (Nat × Value)) (st : List Value) (u : S) : Prop :=
  ∀ (p : Program) (e : Env) (s : State) (m : MethodId) (args : Array Value) (below : List Frame) (meth : Method) (c : Code) (A : Nat → Prop) (H : Heap) (locs : List Loc) (ls : Array Slot),
    xX D cl tys Ev own cc nL Ts ret p s m args meth c A → va_P D cl (wd u) H → va_D A (wd u) → va_S A s.heap H locs → lv_has ls nL lv →
    W p l e rm s m args below meth c H locs kc ks (MQ below (xQ D cl wd A post) args s mc ms A) (F0 m pc ls st)
variable {S : Type} {l : Launch} {D : va_G} {cl : List vw_C} {tys : List (ClassId × FieldType)} {Ev : (Nat → Prop) → State → Prop} {own : String} {cc : ByteArray} {nL : Nat} {Ts : List Cond} {rm : Room} {ret : Option FieldType} {wd : S → va_W} {post : Option Value → S → Prop} {mc ms kc ks : Nat} {pc : Nat} {lv lv' : List (Nat × Value)} {st : List Value} {u u' : S}
theorem x_lk {i : Nat} {v : Value} : ∀ {lv : List (Nat × Value)}, lv.lookup i = some v → (i, v) ∈ lv
  | [], h => by cases h
  | (j, w) :: r, h => by
    rw [List.lookup_cons] at h
    by_cases hj : i = j
    · subst hj
      simp at h
      subst h
      exact List.mem_cons_self
    · have hb : (i == j) = false := by simp [hj]
      rw [hb] at h
      exact List.mem_cons_of_mem _ (x_lk h)
theorem x_has {ls : Array Slot} {i : Nat} {v : Value} (h : lv_has ls nL lv) (hk : lv.lookup i = some v) : ls[i]? = some (.val v) := h.2.2 (i, v) (x_lk hk)

theorem x_iconst {n : Int} {v : Int32} (hd : decode cc pc = .ok (.iconst n, 1)) (hv : Int32.ofInt n = v) (kk : RR l D cl tys Ev own cc nL Ts rm ret wd post mc ms kc ks (pc + 1) lv (.int v :: st) u) : RR l D cl tys Ev own cc nL Ts rm ret wd post mc ms kc ks pc lv st u := by
  intro p e s m args below meth c A H locs ls hX hP hD hS hl
  exact lv_iconst hX.1 hX.2.1 hd hv (kk p e s m args below meth c A H locs ls hX hP hD hS hl)

theorem x_bipush {n : Int} {v : Int32} (hd : decode cc pc = .ok (.bipush n, 2)) (hv : (Int8.ofInt n).toInt32 = v) (kk : RR l D cl tys Ev own cc nL Ts rm ret wd post mc ms kc ks (pc + 2) lv (.int v :: st) u) : RR l D cl tys Ev own cc nL Ts rm ret wd post mc ms kc ks pc lv st u := by
  intro p e s m args below meth c A H locs ls hX hP hD hS hl
  exact lv_bipush hX.1 hX.2.1 hd hv (kk p e s m args below meth c A H locs ls hX hP hD hS hl)

theorem x_sipush {n : Int} {v : Int32} (hd : decode cc pc = .ok (.sipush n, 3)) (hv : (Int16.ofInt n).toInt32 = v) (kk : RR l D cl tys Ev own cc nL Ts rm ret wd post mc ms kc ks (pc + 3) lv (.int v :: st) u) : RR l D cl tys Ev own cc nL Ts rm ret wd post mc ms kc ks pc lv st u := by
  intro p e s m args below meth c A H locs ls hX hP hD hS hl
  exact lv_sipush hX.1 hX.2.1 hd hv (kk p e s m args below meth c A H locs ls hX hP hD hS hl)

theorem x_lconst {n : Fin 2} {v : Int64} (hd : decode cc pc = .ok (.lconst n, 1)) (hv : Int64.ofNat (n : Nat) = v) (kk : RR l D cl tys Ev own cc nL Ts rm ret wd post mc ms kc ks (pc + 1) lv (.long v :: st) u) : RR l D cl tys Ev own cc nL Ts rm ret wd post mc ms kc ks pc lv st u := by
  intro p e s m args below meth c A H locs ls hX hP hD hS hl
  exact lv_lconst hX.1 hX.2.1 hd hv (kk p e s m args below meth c A H locs ls hX hP hD hS hl)

theorem x_null (hd : decode cc pc = .ok (.aconst_null, 1)) (kk : RR l D cl tys Ev own cc nL Ts rm ret wd post mc ms kc ks (pc + 1) lv (.null :: st) u) : RR l D cl tys Ev own cc nL Ts rm ret wd post mc ms kc ks pc lv st u := by
  intro p e s m args below meth c A H locs ls hX hP hD hS hl
  exact lv_null hX.1 hX.2.1 hd (kk p e s m args below meth c A H locs ls hX hP hD hS hl)

theorem x_ldc2 {index : Nat} {v : Int64} (hc : Cond.constantLong own index v ∈ Ts) (hd : decode cc pc = .ok (.ldc2_w index, 3)) (kk : RR l D cl tys Ev own cc nL Ts rm ret wd post mc ms kc ks (pc + 3) lv (.long v :: st) u) : RR l D cl tys Ev own cc nL Ts rm ret wd post mc ms kc ks pc lv st u := by
  intro p e s m args below meth c A H locs ls hX hP hD hS hl
  exact lv_ldc2 hX.1 hX.2.1 hX.2.2.2.1 (hX.2.2.2.2.1 _ hc) hd (kk p e s m args below meth c A H locs ls hX hP hD hS hl)

theorem x_ldc {index : Nat} {v : Int32} (hc : Cond.constant own index v ∈ Ts) (hd : decode cc pc = .ok (.ldc index, 2)) (kk : RR l D cl tys Ev own cc nL Ts rm ret wd post mc ms kc ks (pc + 2) lv (.int v :: st) u) : RR l D cl tys Ev own cc nL Ts rm ret wd post mc ms kc ks pc lv st u := by
  intro p e s m args below meth c A H locs ls hX hP hD hS hl
  exact lv_ldc hX.1 hX.2.1 hX.2.2.2.1 (hX.2.2.2.2.1 _ hc) hd (kk p e s m args below meth c A H locs ls hX hP hD hS hl)

theorem x_iload_n {k : Fin 4} {x : Int32} (hd : decode cc pc = .ok (.iload_n k, 1)) (hk : lv.lookup (k : Nat) = some (.int x)) (kk : RR l D cl tys Ev own cc nL Ts rm ret wd post mc ms kc ks (pc + 1) lv (.int x :: st) u) : RR l D cl tys Ev own cc nL Ts rm ret wd post mc ms kc ks pc lv st u := by
  intro p e s m args below meth c A H locs ls hX hP hD hS hl
  exact lv_iload_n hX.1 hX.2.1 hd rfl (x_has hl hk) (kk p e s m args below meth c A H locs ls hX hP hD hS hl)

theorem x_iload {i : Nat} {x : Int32} (hd : decode cc pc = .ok (.iload i, 2)) (hk : lv.lookup i = some (.int x)) (kk : RR l D cl tys Ev own cc nL Ts rm ret wd post mc ms kc ks (pc + 2) lv (.int x :: st) u) : RR l D cl tys Ev own cc nL Ts rm ret wd post mc ms kc ks pc lv st u := by
  intro p e s m args below meth c A H locs ls hX hP hD hS hl
  exact lv_iload hX.1 hX.2.1 hd (x_has hl hk) (kk p e s m args below meth c A H locs ls hX hP hD hS hl)

theorem x_lload_n {k : Fin 4} {x : Int64} (hd : decode cc pc = .ok (.lload_n k, 1)) (hk : lv.lookup (k : Nat) = some (.long x)) (kk : RR l D cl tys Ev own cc nL Ts rm ret wd post mc ms kc ks (pc + 1) lv (.long x :: st) u) : RR l D cl tys Ev own cc nL Ts rm ret wd post mc ms kc ks pc lv st u := by
  intro p e s m args below meth c A H locs ls hX hP hD hS hl
  exact lv_lload_n hX.1 hX.2.1 hd rfl (x_has hl hk) (kk p e s m args below meth c A H locs ls hX hP hD hS hl)

theorem x_lload {i : Nat} {x : Int64} (hd : decode cc pc = .ok (.lload i, 2)) (hk : lv.lookup i = some (.long x)) (kk : RR l D cl tys Ev own cc nL Ts rm ret wd post mc ms kc ks (pc + 2) lv (.long x :: st) u) : RR l D cl tys Ev own cc nL Ts rm ret wd post mc ms kc ks pc lv st u := by
  intro p e s m args below meth c A H locs ls hX hP hD hS hl
  exact lv_lload hX.1 hX.2.1 hd (x_has hl hk) (kk p e s m args below meth c A H locs ls hX hP hD hS hl)

theorem x_aload_n {k : Fin 4} {x : Nat} (hd : decode cc pc = .ok (.aload_n k, 1)) (hk : lv.lookup (k : Nat) = some (.ref x)) (kk : RR l D cl tys Ev own cc nL Ts rm ret wd post mc ms kc ks (pc + 1) lv (.ref x :: st) u) : RR l D cl tys Ev own cc nL Ts rm ret wd post mc ms kc ks pc lv st u := by
  intro p e s m args below meth c A H locs ls hX hP hD hS hl
  exact lv_aload_n hX.1 hX.2.1 hd rfl (x_has hl hk) (kk p e s m args below meth c A H locs ls hX hP hD hS hl)

theorem x_aload {i : Nat} {x : Nat} (hd : decode cc pc = .ok (.aload i, 2)) (hk : lv.lookup i = some (.ref x)) (kk : RR l D cl tys Ev own cc nL Ts rm ret wd post mc ms kc ks (pc + 2) lv (.ref x :: st) u) : RR l D cl tys Ev own cc nL Ts rm ret wd post mc ms kc ks pc lv st u := by
  intro p e s m args below meth c A H locs ls hX hP hD hS hl
  exact lv_aload hX.1 hX.2.1 hd (x_has hl hk) (kk p e s m args below meth c A H locs ls hX hP hD hS hl)

theorem x_aload_nN {k : Fin 4} (hd : decode cc pc = .ok (.aload_n k, 1)) (hk : lv.lookup (k : Nat) = some .null) (kk : RR l D cl tys Ev own cc nL Ts rm ret wd post mc ms kc ks (pc + 1) lv (.null :: st) u) : RR l D cl tys Ev own cc nL Ts rm ret wd post mc ms kc ks pc lv st u := by
  intro p e s m args below meth c A H locs ls hX hP hD hS hl
  exact lv_aload_nN hX.1 hX.2.1 hd rfl (x_has hl hk) (kk p e s m args below meth c A H locs ls hX hP hD hS hl)

theorem x_aloadN {i : Nat} (hd : decode cc pc = .ok (.aload i, 2)) (hk : lv.lookup i = some .null) (kk : RR l D cl tys Ev own cc nL Ts rm ret wd post mc ms kc ks (pc + 2) lv (.null :: st) u) : RR l D cl tys Ev own cc nL Ts rm ret wd post mc ms kc ks pc lv st u := by
  intro p e s m args below meth c A H locs ls hX hP hD hS hl
  exact lv_aloadN hX.1 hX.2.1 hd (x_has hl hk) (kk p e s m args below meth c A H locs ls hX hP hD hS hl)

theorem x_istore_n {k : Fin 4} {x : Int32} (hd : decode cc pc = .ok (.istore_n k, 1)) (hn : (k : Nat) < nL) (hl' : ((k : Nat), Value.int x) :: lv.filter (fun q => !(q.1 == (k : Nat)) && !(q.1 + 1 == (k : Nat) && q.2.category == 2)) = lv') (kk : RR l D cl tys Ev own cc nL Ts rm ret wd post mc ms kc ks (pc + 1) lv' st u) : RR l D cl tys Ev own cc nL Ts rm ret wd post mc ms kc ks pc lv (Value.int x :: st) u := by
  intro p e s m args below meth c A H locs ls hX hP hD hS hl
  exact lv_istore_n hX.1 hX.2.1 hd rfl hl hn hl' (fun ls' hl2 => kk p e s m args below meth c A H locs ls' hX hP hD hS hl2)

theorem x_istore {i : Nat} {x : Int32} (hd : decode cc pc = .ok (.istore i, 2)) (hn : i < nL) (hl' : (i, Value.int x) :: lv.filter (fun q => !(q.1 == i) && !(q.1 + 1 == i && q.2.category == 2)) = lv') (kk : RR l D cl tys Ev own cc nL Ts rm ret wd post mc ms kc ks (pc + 2) lv' st u) : RR l D cl tys Ev own cc nL Ts rm ret wd post mc ms kc ks pc lv (Value.int x :: st) u := by
  intro p e s m args below meth c A H locs ls hX hP hD hS hl
  exact lv_istore hX.1 hX.2.1 hd hl hn hl' (fun ls' hl2 => kk p e s m args below meth c A H locs ls' hX hP hD hS hl2)

theorem x_lstore_n {k : Fin 4} {x : Int64} (hd : decode cc pc = .ok (.lstore_n k, 1)) (hn : (k : Nat) + 1 < nL) (hl' : ((k : Nat), Value.long x) :: lv.filter (fun q => !(q.1 == (k : Nat)) && (!(q.1 == (k : Nat) + 1) && !(q.1 + 1 == (k : Nat) && q.2.category == 2))) = lv') (kk : RR l D cl tys Ev own cc nL Ts rm ret wd post mc ms kc ks (pc + 1) lv' st u) : RR l D cl tys Ev own cc nL Ts rm ret wd post mc ms kc ks pc lv (Value.long x :: st) u := by
  intro p e s m args below meth c A H locs ls hX hP hD hS hl
  exact lv_lstore_n hX.1 hX.2.1 hd rfl hl hn hl' (fun ls' hl2 => kk p e s m args below meth c A H locs ls' hX hP hD hS hl2)

theorem x_lstore {i : Nat} {x : Int64} (hd : decode cc pc = .ok (.lstore i, 2)) (hn : i + 1 < nL) (hl' : (i, Value.long x) :: lv.filter (fun q => !(q.1 == i) && (!(q.1 == i + 1) && !(q.1 + 1 == i && q.2.category == 2))) = lv') (kk : RR l D cl tys Ev own cc nL Ts rm ret wd post mc ms kc ks (pc + 2) lv' st u) : RR l D cl tys Ev own cc nL Ts rm ret wd post mc ms kc ks pc lv (Value.long x :: st) u := by
  intro p e s m args below meth c A H locs ls hX hP hD hS hl
  exact lv_lstore hX.1 hX.2.1 hd hl hn hl' (fun ls' hl2 => kk p e s m args below meth c A H locs ls' hX hP hD hS hl2)

theorem x_astore_n {k : Fin 4} {x : Nat} (hd : decode cc pc = .ok (.astore_n k, 1)) (hn : (k : Nat) < nL) (hl' : ((k : Nat), Value.ref x) :: lv.filter (fun q => !(q.1 == (k : Nat)) && !(q.1 + 1 == (k : Nat) && q.2.category == 2)) = lv') (kk : RR l D cl tys Ev own cc nL Ts rm ret wd post mc ms kc ks (pc + 1) lv' st u) : RR l D cl tys Ev own cc nL Ts rm ret wd post mc ms kc ks pc lv (Value.ref x :: st) u := by
  intro p e s m args below meth c A H locs ls hX hP hD hS hl
  exact lv_astore_n hX.1 hX.2.1 hd rfl hl hn hl' (fun ls' hl2 => kk p e s m args below meth c A H locs ls' hX hP hD hS hl2)

theorem x_astore {i : Nat} {x : Nat} (hd : decode cc pc = .ok (.astore i, 2)) (hn : i < nL) (hl' : (i, Value.ref x) :: lv.filter (fun q => !(q.1 == i) && !(q.1 + 1 == i && q.2.category == 2)) = lv') (kk : RR l D cl tys Ev own cc nL Ts rm ret wd post mc ms kc ks (pc + 2) lv' st u) : RR l D cl tys Ev own cc nL Ts rm ret wd post mc ms kc ks pc lv (Value.ref x :: st) u := by
  intro p e s m args below meth c A H locs ls hX hP hD hS hl
  exact lv_astore hX.1 hX.2.1 hd hl hn hl' (fun ls' hl2 => kk p e s m args below meth c A H locs ls' hX hP hD hS hl2)

theorem x_astore_nN {k : Fin 4} (hd : decode cc pc = .ok (.astore_n k, 1)) (hn : (k : Nat) < nL) (hl' : ((k : Nat), Value.null) :: lv.filter (fun q => !(q.1 == (k : Nat)) && !(q.1 + 1 == (k : Nat) && q.2.category == 2)) = lv') (kk : RR l D cl tys Ev own cc nL Ts rm ret wd post mc ms kc ks (pc + 1) lv' st u) : RR l D cl tys Ev own cc nL Ts rm ret wd post mc ms kc ks pc lv (Value.null :: st) u := by
  intro p e s m args below meth c A H locs ls hX hP hD hS hl
  exact lv_astore_nN hX.1 hX.2.1 hd rfl hl hn hl' (fun ls' hl2 => kk p e s m args below meth c A H locs ls' hX hP hD hS hl2)

theorem x_astoreN {i : Nat} (hd : decode cc pc = .ok (.astore i, 2)) (hn : i < nL) (hl' : (i, Value.null) :: lv.filter (fun q => !(q.1 == i) && !(q.1 + 1 == i && q.2.category == 2)) = lv') (kk : RR l D cl tys Ev own cc nL Ts rm ret wd post mc ms kc ks (pc + 2) lv' st u) : RR l D cl tys Ev own cc nL Ts rm ret wd post mc ms kc ks pc lv (Value.null :: st) u := by
  intro p e s m args below meth c A H locs ls hX hP hD hS hl
  exact lv_astoreN hX.1 hX.2.1 hd hl hn hl' (fun ls' hl2 => kk p e s m args below meth c A H locs ls' hX hP hD hS hl2)

theorem x_iinc {i : Nat} {n : Int} {x v : Int32} (hd : decode cc pc = .ok (.iinc i n, 3)) (hk : lv.lookup i = some (.int x)) (hv : x + Int32.ofInt n = v) (hn : i < nL) (hl' : (i, Value.int v) :: lv.filter (fun q => !(q.1 == i) && !(q.1 + 1 == i && q.2.category == 2)) = lv') (kk : RR l D cl tys Ev own cc nL Ts rm ret wd post mc ms kc ks (pc + 3) lv' st u) : RR l D cl tys Ev own cc nL Ts rm ret wd post mc ms kc ks pc lv st u := by
  intro p e s m args below meth c A H locs ls hX hP hD hS hl
  obtain ⟨k, hkk⟩ := List.getElem?_of_mem (x_lk hk)
  exact lv_iinc hX.1 hX.2.1 hd hl hkk hv hn hl' (fun ls' hl2 => kk p e s m args below meth c A H locs ls' hX hP hD hS hl2)

theorem x_iadd {x y : Int32} (hd : decode cc pc = .ok (.iadd, 1)) (kk : RR l D cl tys Ev own cc nL Ts rm ret wd post mc ms kc ks (pc + 1) lv (.int (x + y) :: st) u) : RR l D cl tys Ev own cc nL Ts rm ret wd post mc ms kc ks pc lv (.int y :: .int x :: st) u := by
  intro p e s m args below meth c A H locs ls hX hP hD hS hl
  exact lv_iadd hX.1 hX.2.1 hd (kk p e s m args below meth c A H locs ls hX hP hD hS hl)

theorem x_isub {x y : Int32} (hd : decode cc pc = .ok (.isub, 1)) (kk : RR l D cl tys Ev own cc nL Ts rm ret wd post mc ms kc ks (pc + 1) lv (.int (x - y) :: st) u) : RR l D cl tys Ev own cc nL Ts rm ret wd post mc ms kc ks pc lv (.int y :: .int x :: st) u := by
  intro p e s m args below meth c A H locs ls hX hP hD hS hl
  exact lv_isub hX.1 hX.2.1 hd (kk p e s m args below meth c A H locs ls hX hP hD hS hl)

theorem x_imul {x y : Int32} (hd : decode cc pc = .ok (.imul, 1)) (kk : RR l D cl tys Ev own cc nL Ts rm ret wd post mc ms kc ks (pc + 1) lv (.int (x * y) :: st) u) : RR l D cl tys Ev own cc nL Ts rm ret wd post mc ms kc ks pc lv (.int y :: .int x :: st) u := by
  intro p e s m args below meth c A H locs ls hX hP hD hS hl
  exact lv_imul hX.1 hX.2.1 hd (kk p e s m args below meth c A H locs ls hX hP hD hS hl)

theorem x_iand {x y : Int32} (hd : decode cc pc = .ok (.iand, 1)) (kk : RR l D cl tys Ev own cc nL Ts rm ret wd post mc ms kc ks (pc + 1) lv (.int (x &&& y) :: st) u) : RR l D cl tys Ev own cc nL Ts rm ret wd post mc ms kc ks pc lv (.int y :: .int x :: st) u := by
  intro p e s m args below meth c A H locs ls hX hP hD hS hl
  exact lv_iand hX.1 hX.2.1 hd (kk p e s m args below meth c A H locs ls hX hP hD hS hl)

theorem x_ior {x y : Int32} (hd : decode cc pc = .ok (.ior, 1)) (kk : RR l D cl tys Ev own cc nL Ts rm ret wd post mc ms kc ks (pc + 1) lv (.int (x ||| y) :: st) u) : RR l D cl tys Ev own cc nL Ts rm ret wd post mc ms kc ks pc lv (.int y :: .int x :: st) u := by
  intro p e s m args below meth c A H locs ls hX hP hD hS hl
  exact lv_ior hX.1 hX.2.1 hd (kk p e s m args below meth c A H locs ls hX hP hD hS hl)

theorem x_ixor {x y : Int32} (hd : decode cc pc = .ok (.ixor, 1)) (kk : RR l D cl tys Ev own cc nL Ts rm ret wd post mc ms kc ks (pc + 1) lv (.int (x ^^^ y) :: st) u) : RR l D cl tys Ev own cc nL Ts rm ret wd post mc ms kc ks pc lv (.int y :: .int x :: st) u := by
  intro p e s m args below meth c A H locs ls hX hP hD hS hl
  exact lv_ixor hX.1 hX.2.1 hd (kk p e s m args below meth c A H locs ls hX hP hD hS hl)

theorem x_idiv {x y : Int32} (hd : decode cc pc = .ok (.idiv, 1)) (hne : ¬ y = 0) (kk : RR l D cl tys Ev own cc nL Ts rm ret wd post mc ms kc ks (pc + 1) lv (.int (x / y) :: st) u) : RR l D cl tys Ev own cc nL Ts rm ret wd post mc ms kc ks pc lv (.int y :: .int x :: st) u := by
  intro p e s m args below meth c A H locs ls hX hP hD hS hl
  exact lv_idiv hX.1 hX.2.1 hd hne (kk p e s m args below meth c A H locs ls hX hP hD hS hl)

theorem x_irem {x y : Int32} (hd : decode cc pc = .ok (.irem, 1)) (hne : ¬ y = 0) (kk : RR l D cl tys Ev own cc nL Ts rm ret wd post mc ms kc ks (pc + 1) lv (.int (x - x / y * y) :: st) u) : RR l D cl tys Ev own cc nL Ts rm ret wd post mc ms kc ks pc lv (.int y :: .int x :: st) u := by
  intro p e s m args below meth c A H locs ls hX hP hD hS hl
  exact lv_irem hX.1 hX.2.1 hd hne (kk p e s m args below meth c A H locs ls hX hP hD hS hl)

theorem x_ladd {x y : Int64} (hd : decode cc pc = .ok (.ladd, 1)) (kk : RR l D cl tys Ev own cc nL Ts rm ret wd post mc ms kc ks (pc + 1) lv (.long (x + y) :: st) u) : RR l D cl tys Ev own cc nL Ts rm ret wd post mc ms kc ks pc lv (.long y :: .long x :: st) u := by
  intro p e s m args below meth c A H locs ls hX hP hD hS hl
  exact lv_ladd hX.1 hX.2.1 hd (kk p e s m args below meth c A H locs ls hX hP hD hS hl)

theorem x_lor {x y : Int64} (hd : decode cc pc = .ok (.lor, 1)) (kk : RR l D cl tys Ev own cc nL Ts rm ret wd post mc ms kc ks (pc + 1) lv (.long (x ||| y) :: st) u) : RR l D cl tys Ev own cc nL Ts rm ret wd post mc ms kc ks pc lv (.long y :: .long x :: st) u := by
  intro p e s m args below meth c A H locs ls hX hP hD hS hl
  exact lv_lor hX.1 hX.2.1 hd (kk p e s m args below meth c A H locs ls hX hP hD hS hl)

theorem x_land {x y : Int64} (hd : decode cc pc = .ok (.land, 1)) (kk : RR l D cl tys Ev own cc nL Ts rm ret wd post mc ms kc ks (pc + 1) lv (.long (x &&& y) :: st) u) : RR l D cl tys Ev own cc nL Ts rm ret wd post mc ms kc ks pc lv (.long y :: .long x :: st) u := by
  intro p e s m args below meth c A H locs ls hX hP hD hS hl
  exact lv_land hX.1 hX.2.1 hd (kk p e s m args below meth c A H locs ls hX hP hD hS hl)

theorem x_i2l {x : Int32} (hd : decode cc pc = .ok (.i2l, 1)) (kk : RR l D cl tys Ev own cc nL Ts rm ret wd post mc ms kc ks (pc + 1) lv (.long x.toInt64 :: st) u) : RR l D cl tys Ev own cc nL Ts rm ret wd post mc ms kc ks pc lv (.int x :: st) u := by
  intro p e s m args below meth c A H locs ls hX hP hD hS hl
  exact lv_i2l hX.1 hX.2.1 hd rfl (kk p e s m args below meth c A H locs ls hX hP hD hS hl)

theorem x_l2i {x : Int64} (hd : decode cc pc = .ok (.l2i, 1)) (kk : RR l D cl tys Ev own cc nL Ts rm ret wd post mc ms kc ks (pc + 1) lv (.int x.toInt32 :: st) u) : RR l D cl tys Ev own cc nL Ts rm ret wd post mc ms kc ks pc lv (.long x :: st) u := by
  intro p e s m args below meth c A H locs ls hX hP hD hS hl
  exact lv_l2i hX.1 hX.2.1 hd rfl (kk p e s m args below meth c A H locs ls hX hP hD hS hl)

theorem x_i2c {x : Int32} (hd : decode cc pc = .ok (.i2c, 1)) (kk : RR l D cl tys Ev own cc nL Ts rm ret wd post mc ms kc ks (pc + 1) lv (.int (x.toUInt32 % 65536).toInt32 :: st) u) : RR l D cl tys Ev own cc nL Ts rm ret wd post mc ms kc ks pc lv (.int x :: st) u := by
  intro p e s m args below meth c A H locs ls hX hP hD hS hl
  exact lv_i2c hX.1 hX.2.1 hd rfl (kk p e s m args below meth c A H locs ls hX hP hD hS hl)

theorem x_lushr {x : Int64} {y : Int32} (hd : decode cc pc = .ok (.lushr, 1)) (kk : RR l D cl tys Ev own cc nL Ts rm ret wd post mc ms kc ks (pc + 1) lv (.long (x.toUInt64 >>> (y.toInt64.toUInt64 &&& Int64.toUInt64 63)).toInt64 :: st) u) : RR l D cl tys Ev own cc nL Ts rm ret wd post mc ms kc ks pc lv (.int y :: .long x :: st) u := by
  intro p e s m args below meth c A H locs ls hX hP hD hS hl
  exact lv_lushr hX.1 hX.2.1 hd rfl (kk p e s m args below meth c A H locs ls hX hP hD hS hl)

theorem x_lshl {x : Int64} {y : Int32} (hd : decode cc pc = .ok (.lshl, 1)) (kk : RR l D cl tys Ev own cc nL Ts rm ret wd post mc ms kc ks (pc + 1) lv (.long (x <<< (y.toInt64 &&& 63)) :: st) u) : RR l D cl tys Ev own cc nL Ts rm ret wd post mc ms kc ks pc lv (.int y :: .long x :: st) u := by
  intro p e s m args below meth c A H locs ls hX hP hD hS hl
  exact lv_lshl hX.1 hX.2.1 hd rfl (kk p e s m args below meth c A H locs ls hX hP hD hS hl)

theorem x_lshr {x : Int64} {y : Int32} (hd : decode cc pc = .ok (.lshr, 1)) (kk : RR l D cl tys Ev own cc nL Ts rm ret wd post mc ms kc ks (pc + 1) lv (.long (x >>> (y.toInt64 &&& 63)) :: st) u) : RR l D cl tys Ev own cc nL Ts rm ret wd post mc ms kc ks pc lv (.int y :: .long x :: st) u := by
  intro p e s m args below meth c A H locs ls hX hP hD hS hl
  exact lv_lshr hX.1 hX.2.1 hd rfl (kk p e s m args below meth c A H locs ls hX hP hD hS hl)

theorem x_ishr {x y : Int32} (hd : decode cc pc = .ok (.ishr, 1)) (kk : RR l D cl tys Ev own cc nL Ts rm ret wd post mc ms kc ks (pc + 1) lv (.int (x >>> (y &&& 31)) :: st) u) : RR l D cl tys Ev own cc nL Ts rm ret wd post mc ms kc ks pc lv (.int y :: .int x :: st) u := by
  intro p e s m args below meth c A H locs ls hX hP hD hS hl
  exact lv_ishr hX.1 hX.2.1 hd (kk p e s m args below meth c A H locs ls hX hP hD hS hl)

theorem x_dup {a : Value} (hd : decode cc pc = .ok (.dup, 1)) (ha : a.category = 1) (kk : RR l D cl tys Ev own cc nL Ts rm ret wd post mc ms kc ks (pc + 1) lv (a :: a :: st) u) : RR l D cl tys Ev own cc nL Ts rm ret wd post mc ms kc ks pc lv (a :: st) u := by
  intro p e s m args below meth c A H locs ls hX hP hD hS hl
  exact lv_dup hX.1 hX.2.1 hd ha (kk p e s m args below meth c A H locs ls hX hP hD hS hl)

theorem x_pop {a : Value} (hd : decode cc pc = .ok (.pop, 1)) (ha : a.category = 1) (kk : RR l D cl tys Ev own cc nL Ts rm ret wd post mc ms kc ks (pc + 1) lv st u) : RR l D cl tys Ev own cc nL Ts rm ret wd post mc ms kc ks pc lv (a :: st) u := by
  intro p e s m args below meth c A H locs ls hX hP hD hS hl
  exact lv_pop hX.1 hX.2.1 hd ha (kk p e s m args below meth c A H locs ls hX hP hD hS hl)

theorem x_dup_x1 {a b : Value} (hd : decode cc pc = .ok (.dup_x1, 1)) (ha : a.category = 1) (hb' : b.category = 1) (kk : RR l D cl tys Ev own cc nL Ts rm ret wd post mc ms kc ks (pc + 1) lv (a :: b :: a :: st) u) : RR l D cl tys Ev own cc nL Ts rm ret wd post mc ms kc ks pc lv (a :: b :: st) u := by
  intro p e s m args below meth c A H locs ls hX hP hD hS hl
  exact lv_dup_x1 hX.1 hX.2.1 hd ha hb' (kk p e s m args below meth c A H locs ls hX hP hD hS hl)

theorem x_dup2 {a b : Value} (hd : decode cc pc = .ok (.dup2, 1)) (ha : a.category = 1) (hb' : b.category = 1) (kk : RR l D cl tys Ev own cc nL Ts rm ret wd post mc ms kc ks (pc + 1) lv (a :: b :: a :: b :: st) u) : RR l D cl tys Ev own cc nL Ts rm ret wd post mc ms kc ks pc lv (a :: b :: st) u := by
  intro p e s m args below meth c A H locs ls hX hP hD hS hl
  exact lv_dup2_11 hX.1 hX.2.1 hd ha hb' (kk p e s m args below meth c A H locs ls hX hP hD hS hl)

theorem x_if_eq {x : Int32} {off : Int} {tgt : Nat} (hd : decode cc pc = .ok (.ifCond .eq off, 3)) (ht : (pc : Int) + off = (tgt : Int)) (kt : x = 0 → RR l D cl tys Ev own cc nL Ts rm ret wd post mc ms kc ks tgt lv st u) (kf : ¬ x = 0 → RR l D cl tys Ev own cc nL Ts rm ret wd post mc ms kc ks (pc + 3) lv st u) : RR l D cl tys Ev own cc nL Ts rm ret wd post mc ms kc ks pc lv (.int x :: st) u := by
  intro p e s m args below meth c A H locs ls hX hP hD hS hl
  exact lv_if_eq hX.1 hX.2.1 hd ht (fun h => kt h p e s m args below meth c A H locs ls hX hP hD hS hl) (fun h => kf h p e s m args below meth c A H locs ls hX hP hD hS hl)

theorem x_icmp_eq {x y : Int32} {off : Int} {tgt : Nat} (hd : decode cc pc = .ok (.if_icmp .eq off, 3)) (ht : (pc : Int) + off = (tgt : Int)) (kt : x = y → RR l D cl tys Ev own cc nL Ts rm ret wd post mc ms kc ks tgt lv st u) (kf : ¬ x = y → RR l D cl tys Ev own cc nL Ts rm ret wd post mc ms kc ks (pc + 3) lv st u) : RR l D cl tys Ev own cc nL Ts rm ret wd post mc ms kc ks pc lv (.int y :: .int x :: st) u := by
  intro p e s m args below meth c A H locs ls hX hP hD hS hl
  exact lv_icmp_eq hX.1 hX.2.1 hd ht (fun h => kt h p e s m args below meth c A H locs ls hX hP hD hS hl) (fun h => kf h p e s m args below meth c A H locs ls hX hP hD hS hl)

theorem x_if_ne {x : Int32} {off : Int} {tgt : Nat} (hd : decode cc pc = .ok (.ifCond .ne off, 3)) (ht : (pc : Int) + off = (tgt : Int)) (kt : ¬ x = 0 → RR l D cl tys Ev own cc nL Ts rm ret wd post mc ms kc ks tgt lv st u) (kf : x = 0 → RR l D cl tys Ev own cc nL Ts rm ret wd post mc ms kc ks (pc + 3) lv st u) : RR l D cl tys Ev own cc nL Ts rm ret wd post mc ms kc ks pc lv (.int x :: st) u := by
  intro p e s m args below meth c A H locs ls hX hP hD hS hl
  exact lv_if_ne hX.1 hX.2.1 hd ht (fun h => kt h p e s m args below meth c A H locs ls hX hP hD hS hl) (fun h => kf h p e s m args below meth c A H locs ls hX hP hD hS hl)

theorem x_icmp_ne {x y : Int32} {off : Int} {tgt : Nat} (hd : decode cc pc = .ok (.if_icmp .ne off, 3)) (ht : (pc : Int) + off = (tgt : Int)) (kt : ¬ x = y → RR l D cl tys Ev own cc nL Ts rm ret wd post mc ms kc ks tgt lv st u) (kf : x = y → RR l D cl tys Ev own cc nL Ts rm ret wd post mc ms kc ks (pc + 3) lv st u) : RR l D cl tys Ev own cc nL Ts rm ret wd post mc ms kc ks pc lv (.int y :: .int x :: st) u := by
  intro p e s m args below meth c A H locs ls hX hP hD hS hl
  exact lv_icmp_ne hX.1 hX.2.1 hd ht (fun h => kt h p e s m args below meth c A H locs ls hX hP hD hS hl) (fun h => kf h p e s m args below meth c A H locs ls hX hP hD hS hl)

theorem x_if_lt {x : Int32} {off : Int} {tgt : Nat} (hd : decode cc pc = .ok (.ifCond .lt off, 3)) (ht : (pc : Int) + off = (tgt : Int)) (kt : x < 0 → RR l D cl tys Ev own cc nL Ts rm ret wd post mc ms kc ks tgt lv st u) (kf : ¬ x < 0 → RR l D cl tys Ev own cc nL Ts rm ret wd post mc ms kc ks (pc + 3) lv st u) : RR l D cl tys Ev own cc nL Ts rm ret wd post mc ms kc ks pc lv (.int x :: st) u := by
  intro p e s m args below meth c A H locs ls hX hP hD hS hl
  exact lv_if_lt hX.1 hX.2.1 hd ht (fun h => kt h p e s m args below meth c A H locs ls hX hP hD hS hl) (fun h => kf h p e s m args below meth c A H locs ls hX hP hD hS hl)

theorem x_icmp_lt {x y : Int32} {off : Int} {tgt : Nat} (hd : decode cc pc = .ok (.if_icmp .lt off, 3)) (ht : (pc : Int) + off = (tgt : Int)) (kt : x < y → RR l D cl tys Ev own cc nL Ts rm ret wd post mc ms kc ks tgt lv st u) (kf : ¬ x < y → RR l D cl tys Ev own cc nL Ts rm ret wd post mc ms kc ks (pc + 3) lv st u) : RR l D cl tys Ev own cc nL Ts rm ret wd post mc ms kc ks pc lv (.int y :: .int x :: st) u := by
  intro p e s m args below meth c A H locs ls hX hP hD hS hl
  exact lv_icmp_lt hX.1 hX.2.1 hd ht (fun h => kt h p e s m args below meth c A H locs ls hX hP hD hS hl) (fun h => kf h p e s m args below meth c A H locs ls hX hP hD hS hl)

theorem x_if_ge {x : Int32} {off : Int} {tgt : Nat} (hd : decode cc pc = .ok (.ifCond .ge off, 3)) (ht : (pc : Int) + off = (tgt : Int)) (kt : 0 ≤ x → RR l D cl tys Ev own cc nL Ts rm ret wd post mc ms kc ks tgt lv st u) (kf : ¬ 0 ≤ x → RR l D cl tys Ev own cc nL Ts rm ret wd post mc ms kc ks (pc + 3) lv st u) : RR l D cl tys Ev own cc nL Ts rm ret wd post mc ms kc ks pc lv (.int x :: st) u := by
  intro p e s m args below meth c A H locs ls hX hP hD hS hl
  exact lv_if_ge hX.1 hX.2.1 hd ht (fun h => kt h p e s m args below meth c A H locs ls hX hP hD hS hl) (fun h => kf h p e s m args below meth c A H locs ls hX hP hD hS hl)

theorem x_icmp_ge {x y : Int32} {off : Int} {tgt : Nat} (hd : decode cc pc = .ok (.if_icmp .ge off, 3)) (ht : (pc : Int) + off = (tgt : Int)) (kt : y ≤ x → RR l D cl tys Ev own cc nL Ts rm ret wd post mc ms kc ks tgt lv st u) (kf : ¬ y ≤ x → RR l D cl tys Ev own cc nL Ts rm ret wd post mc ms kc ks (pc + 3) lv st u) : RR l D cl tys Ev own cc nL Ts rm ret wd post mc ms kc ks pc lv (.int y :: .int x :: st) u := by
  intro p e s m args below meth c A H locs ls hX hP hD hS hl
  exact lv_icmp_ge hX.1 hX.2.1 hd ht (fun h => kt h p e s m args below meth c A H locs ls hX hP hD hS hl) (fun h => kf h p e s m args below meth c A H locs ls hX hP hD hS hl)

theorem x_if_gt {x : Int32} {off : Int} {tgt : Nat} (hd : decode cc pc = .ok (.ifCond .gt off, 3)) (ht : (pc : Int) + off = (tgt : Int)) (kt : 0 < x → RR l D cl tys Ev own cc nL Ts rm ret wd post mc ms kc ks tgt lv st u) (kf : ¬ 0 < x → RR l D cl tys Ev own cc nL Ts rm ret wd post mc ms kc ks (pc + 3) lv st u) : RR l D cl tys Ev own cc nL Ts rm ret wd post mc ms kc ks pc lv (.int x :: st) u := by
  intro p e s m args below meth c A H locs ls hX hP hD hS hl
  exact lv_if_gt hX.1 hX.2.1 hd ht (fun h => kt h p e s m args below meth c A H locs ls hX hP hD hS hl) (fun h => kf h p e s m args below meth c A H locs ls hX hP hD hS hl)

theorem x_icmp_gt {x y : Int32} {off : Int} {tgt : Nat} (hd : decode cc pc = .ok (.if_icmp .gt off, 3)) (ht : (pc : Int) + off = (tgt : Int)) (kt : y < x → RR l D cl tys Ev own cc nL Ts rm ret wd post mc ms kc ks tgt lv st u) (kf : ¬ y < x → RR l D cl tys Ev own cc nL Ts rm ret wd post mc ms kc ks (pc + 3) lv st u) : RR l D cl tys Ev own cc nL Ts rm ret wd post mc ms kc ks pc lv (.int y :: .int x :: st) u := by
  intro p e s m args below meth c A H locs ls hX hP hD hS hl
  exact lv_icmp_gt hX.1 hX.2.1 hd ht (fun h => kt h p e s m args below meth c A H locs ls hX hP hD hS hl) (fun h => kf h p e s m args below meth c A H locs ls hX hP hD hS hl)

theorem x_if_le {x : Int32} {off : Int} {tgt : Nat} (hd : decode cc pc = .ok (.ifCond .le off, 3)) (ht : (pc : Int) + off = (tgt : Int)) (kt : x ≤ 0 → RR l D cl tys Ev own cc nL Ts rm ret wd post mc ms kc ks tgt lv st u) (kf : ¬ x ≤ 0 → RR l D cl tys Ev own cc nL Ts rm ret wd post mc ms kc ks (pc + 3) lv st u) : RR l D cl tys Ev own cc nL Ts rm ret wd post mc ms kc ks pc lv (.int x :: st) u := by
  intro p e s m args below meth c A H locs ls hX hP hD hS hl
  exact lv_if_le hX.1 hX.2.1 hd ht (fun h => kt h p e s m args below meth c A H locs ls hX hP hD hS hl) (fun h => kf h p e s m args below meth c A H locs ls hX hP hD hS hl)

theorem x_icmp_le {x y : Int32} {off : Int} {tgt : Nat} (hd : decode cc pc = .ok (.if_icmp .le off, 3)) (ht : (pc : Int) + off = (tgt : Int)) (kt : x ≤ y → RR l D cl tys Ev own cc nL Ts rm ret wd post mc ms kc ks tgt lv st u) (kf : ¬ x ≤ y → RR l D cl tys Ev own cc nL Ts rm ret wd post mc ms kc ks (pc + 3) lv st u) : RR l D cl tys Ev own cc nL Ts rm ret wd post mc ms kc ks pc lv (.int y :: .int x :: st) u := by
  intro p e s m args below meth c A H locs ls hX hP hD hS hl
  exact lv_icmp_le hX.1 hX.2.1 hd ht (fun h => kt h p e s m args below meth c A H locs ls hX hP hD hS hl) (fun h => kf h p e s m args below meth c A H locs ls hX hP hD hS hl)

theorem x_goto {off : Int} {tgt : Nat} (hd : decode cc pc = .ok (.goto off, 3)) (ht : (pc : Int) + off = (tgt : Int)) (kk : RR l D cl tys Ev own cc nL Ts rm ret wd post mc ms kc ks tgt lv st u) : RR l D cl tys Ev own cc nL Ts rm ret wd post mc ms kc ks pc lv st u := by
  intro p e s m args below meth c A H locs ls hX hP hD hS hl
  exact lv_goto hX.1 hX.2.1 hd ht (kk p e s m args below meth c A H locs ls hX hP hD hS hl)

theorem x_ifnullN {off : Int} {tgt : Nat} (hd : decode cc pc = .ok (.ifnull off, 3)) (ht : (pc : Int) + off = (tgt : Int)) (kk : RR l D cl tys Ev own cc nL Ts rm ret wd post mc ms kc ks tgt lv st u) : RR l D cl tys Ev own cc nL Ts rm ret wd post mc ms kc ks pc lv (.null :: st) u := by
  intro p e s m args below meth c A H locs ls hX hP hD hS hl
  exact lv_ifnullN hX.1 hX.2.1 hd ht (kk p e s m args below meth c A H locs ls hX hP hD hS hl)

theorem x_ifnull {a : Nat} {off : Int} (hd : decode cc pc = .ok (.ifnull off, 3)) (kk : RR l D cl tys Ev own cc nL Ts rm ret wd post mc ms kc ks (pc + 3) lv st u) : RR l D cl tys Ev own cc nL Ts rm ret wd post mc ms kc ks pc lv (.ref a :: st) u := by
  intro p e s m args below meth c A H locs ls hX hP hD hS hl
  exact lv_ifnull hX.1 hX.2.1 hd (kk p e s m args below meth c A H locs ls hX hP hD hS hl)

theorem x_ifnonnull {a : Nat} {off : Int} {tgt : Nat} (hd : decode cc pc = .ok (.ifnonnull off, 3)) (ht : (pc : Int) + off = (tgt : Int)) (kk : RR l D cl tys Ev own cc nL Ts rm ret wd post mc ms kc ks tgt lv st u) : RR l D cl tys Ev own cc nL Ts rm ret wd post mc ms kc ks pc lv (.ref a :: st) u := by
  intro p e s m args below meth c A H locs ls hX hP hD hS hl
  exact lv_ifnonnull hX.1 hX.2.1 hd ht (kk p e s m args below meth c A H locs ls hX hP hD hS hl)

theorem x_ifnonnullN {off : Int} (hd : decode cc pc = .ok (.ifnonnull off, 3)) (kk : RR l D cl tys Ev own cc nL Ts rm ret wd post mc ms kc ks (pc + 3) lv st u) : RR l D cl tys Ev own cc nL Ts rm ret wd post mc ms kc ks pc lv (.null :: st) u := by
  intro p e s m args below meth c A H locs ls hX hP hD hS hl
  exact lv_ifnonnullN hX.1 hX.2.1 hd (kk p e s m args below meth c A H locs ls hX hP hD hS hl)

theorem x_lcmp {x y : Int64} (hd : decode cc pc = .ok (.lcmp, 1)) (kk : RR l D cl tys Ev own cc nL Ts rm ret wd post mc ms kc ks (pc + 1) lv (.int (lg_cmp x y) :: st) u) : RR l D cl tys Ev own cc nL Ts rm ret wd post mc ms kc ks pc lv (.long y :: .long x :: st) u := by
  intro p e s m args below meth c A H locs ls hX hP hD hS hl
  exact W.lcmp hX.1 hX.2.1 hd (kk p e s m args below meth c A H locs ls hX hP hD hS hl)

theorem x_tableOut {dflt lo hi : Int} {offs : Array Int} {len : Nat} {x : Int32} {tgt : Nat} (hd : decode cc pc = .ok (.tableswitch dflt lo hi offs, len)) (h : x.toInt < lo ∨ hi < x.toInt) (ht : (pc : Int) + dflt = (tgt : Int)) (kk : RR l D cl tys Ev own cc nL Ts rm ret wd post mc ms kc ks tgt lv st u) : RR l D cl tys Ev own cc nL Ts rm ret wd post mc ms kc ks pc lv (.int x :: st) u := by
  intro p e s m args below meth c A H locs ls hX hP hD hS hl
  exact lv_tableOut hX.1 hX.2.1 hd h ht (kk p e s m args below meth c A H locs ls hX hP hD hS hl)

theorem x_tableIn {dflt lo hi : Int} {offs : Array Int} {len : Nat} {x : Int32} {off : Int} {tgt : Nat} (hd : decode cc pc = .ok (.tableswitch dflt lo hi offs, len)) (h1 : ¬ x.toInt < lo) (h2 : ¬ hi < x.toInt) (ho : offs[(x.toInt - lo).toNat]? = some off) (ht : (pc : Int) + off = (tgt : Int)) (kk : RR l D cl tys Ev own cc nL Ts rm ret wd post mc ms kc ks tgt lv st u) : RR l D cl tys Ev own cc nL Ts rm ret wd post mc ms kc ks pc lv (.int x :: st) u := by
  intro p e s m args below meth c A H locs ls hX hP hD hS hl
  exact lv_tableIn hX.1 hX.2.1 hd h1 h2 ho ht (kk p e s m args below meth c A H locs ls hX hP hD hS hl)

theorem x_lookup {dflt : Int} {ps : Array (Int × Int)} {len : Nat} {x : Int32} {off : Int} {tgt : Nat} (hd : decode cc pc = .ok (.lookupswitch dflt ps, len)) (hp : (ps.toList.zip (ps.toList.drop 1)).all (fun (a, next) => a.1 < next.1) = true) (ho : Op.lookupswitch.offset ps.toList dflt x.toInt = off) (ht : (pc : Int) + off = (tgt : Int)) (kk : RR l D cl tys Ev own cc nL Ts rm ret wd post mc ms kc ks tgt lv st u) : RR l D cl tys Ev own cc nL Ts rm ret wd post mc ms kc ks pc lv (.int x :: st) u := by
  intro p e s m args below meth c A H locs ls hX hP hD hS hl
  exact lv_lookup hX.1 hX.2.1 hd hp ho ht (kk p e s m args below meth c A H locs ls hX hP hD hS hl)

theorem x_sub (js : List Nat) (h : lv_pick lv js = lv') (kk : RR l D cl tys Ev own cc nL Ts rm ret wd post mc ms kc ks pc lv' st u) : RR l D cl tys Ev own cc nL Ts rm ret wd post mc ms kc ks pc lv st u := by
  intro p e s m args below meth c A H locs ls hX hP hD hS hl
  exact kk p e s m args below meth c A H locs ls hX hP hD hS (lv_sub hl js h)

theorem x_iret {x : Int32} (hd : decode cc pc = .ok (.ireturn, 1)) (kk : post (some (.int x)) u) (hc : kc ≤ mc := by omega) (hs : ks ≤ ms := by omega) : RR l D cl tys Ev own cc nL Ts rm (some .int) wd post mc ms kc ks pc lv [.int x] u := by
  intro p e s m args below meth c A H locs ls hX hP hD hS hl
  obtain ⟨hx, hb, -, -, -, -, -, hk, hr, -⟩ := hX
  refine W.widen (k := mc) (n := ms) hc hs ?_
  exact W.iret hx hb hr (fun t ht hW => ⟨⟨_, u, rfl, kk, by rw [ht]; exact hP, hD⟩, hS.F ht⟩) hS.2.2 hd hk

theorem x_zret {x : Int32} {ty : FieldType} (hn : narrow ty (.int x) = .int x) (hd : decode cc pc = .ok (.ireturn, 1)) (kk : post (some (.int x)) u) (hc : kc ≤ mc := by omega) (hs : ks ≤ ms := by omega) : RR l D cl tys Ev own cc nL Ts rm (some ty) wd post mc ms kc ks pc lv [.int x] u := by
  intro p e s m args below meth c A H locs ls hX hP hD hS hl
  obtain ⟨hx, hb, -, -, -, -, -, hk, hr, -⟩ := hX
  refine W.widen (k := mc) (n := ms) hc hs ?_
  exact W.zret hx hb hr hn (fun t ht hW => ⟨⟨_, u, rfl, kk, by rw [ht]; exact hP, hD⟩, hS.F ht⟩) hS.2.2 hd hk

theorem x_lret {x : Int64} (hd : decode cc pc = .ok (.lreturn, 1)) (kk : post (some (.long x)) u) (hc : kc ≤ mc := by omega) (hs : ks ≤ ms := by omega) : RR l D cl tys Ev own cc nL Ts rm (some .long) wd post mc ms kc ks pc lv [.long x] u := by
  intro p e s m args below meth c A H locs ls hX hP hD hS hl
  obtain ⟨hx, hb, -, -, -, -, -, hk, hr, -⟩ := hX
  refine W.widen (k := mc) (n := ms) hc hs ?_
  exact W.lret hx hb hr (fun t ht hW => ⟨⟨_, u, rfl, kk, by rw [ht]; exact hP, hD⟩, hS.F ht⟩) hS.2.2 hd hk

theorem x_vret (hd : decode cc pc = .ok (.return_, 1)) (kk : post none u) (hc : kc ≤ mc := by omega) (hs : ks ≤ ms := by omega) : RR l D cl tys Ev own cc nL Ts rm none wd post mc ms kc ks pc lv [] u := by
  intro p e s m args below meth c A H locs ls hX hP hD hS hl
  obtain ⟨hx, hb, -, -, -, -, -, hk, hr, -⟩ := hX
  refine W.widen (k := mc) (n := ms) hc hs ?_
  exact W.vret hx hb hr (fun t ht hW => ⟨⟨_, u, rfl, kk, by rw [ht]; exact hP, hD⟩, hS.F ht⟩) hS.2.2 hd hk

theorem x_aret {v : Value} {rt : FieldType} (hrt : (∃ n, rt = .object n) ∨ ∃ t, rt = .array t) (hv : v = .null ∨ ∃ a, v = .ref a) (hd : decode cc pc = .ok (.areturn, 1)) (kk : post (some v) u) (hc : kc ≤ mc := by omega) (hs : ks ≤ ms := by omega) : RR l D cl tys Ev own cc nL Ts rm (some rt) wd post mc ms kc ks pc lv [v] u := by
  intro p e s m args below meth c A H locs ls hX hP hD hS hl
  obtain ⟨hx, hb, -, -, -, -, -, hk, hr, -⟩ := hX
  refine W.widen (k := mc) (n := ms) hc hs ?_
  exact W.aret hx hb hr hrt hv (fun t ht hW => ⟨⟨_, u, rfl, kk, by rw [ht]; exact hP, hD⟩, hS.F ht⟩) hS.2.2 hd hk

/-- what an instruction's field is: field k of the class ci -/
def xF (cl : List vw_C) (Ts : List Cond) (own : String) (index ci k : Nat) : Prop := ∃ (C : String) (T : u_T) (N : Nat) (ref : String), (∀ w ∈ u_ws C T N, w ∈ Ts) ∧ cl[ci]? = some (C, T, N) ∧ k < N ∧ Cond.fieldLink own index ref (T k).2.1 (T k).2.2.1 ∈ Ts ∧ (ref = (T k).1 ∨ Cond.sameField ref (T k).1 (T k).2.1 (T k).2.2.1 ∈ Ts)
/-- a field that may be written: its type -/
def xFw (cl : List vw_C) (ci k : Nat) (ty : FieldType) : Prop := ∃ (C : String) (T : u_T) (N : Nat) (ty0 : Nat → FieldType), cl[ci]? = some (C, T, N) ∧ (∀ k, k < N → parseFieldDescriptor (T k).2.2.1 = some (ty0 k)) ∧ (∀ a, a < N → ∀ b, b < N → a ≠ b → (T a).2.1 ≠ (T b).2.1) ∧ (T k).2.2.2 = false ∧ parseFieldDescriptor (T k).2.2.1 = some ty
theorem x_get {index ci k q0 a : Nat} {fs : List Value} {v : Value} (F : xF cl Ts own index ci k) (he : (wd u)[q0]? = some (a, .inr (ci, fs))) (hv : fs[k]? = some v) (hd : decode cc pc = .ok (.getfield index, 3)) (kk : RR l D cl tys Ev own cc nL Ts rm ret wd post mc ms kc ks (pc + 3) lv (v :: st) u) : RR l D cl tys Ev own cc nL Ts rm ret wd post mc ms kc ks pc lv (.ref a :: st) u := by
  intro p e s m args below meth c A H locs ls hX hP hD hS hl
  obtain ⟨C, T, N, ref, h1, h2, h3, h4, h5⟩ := F
  obtain ⟨hx, hb, -, hown, hts, hK, -⟩ := id hX
  refine va_get hx hb hts h1 hown hK hP q0 he h2 k h3 (hts _ h4) (fun x9 h9 => ?_) hv hd (kk p e s m args below meth c A H locs ls hX hP hD hS hl)
  rcases h5 with h5 | h5
  · rw [h5]; exact h9
  · exact u_same (hts _ h5) x9 h9
theorem x_put {index ci k q0 a : Nat} {fs : List Value} {v : Value} {ty : FieldType} (F : xF cl Ts own index ci k) (Fw : xFw cl ci k ty) (he : (wd u)[q0]? = some (a, .inr (ci, fs))) (hn : narrow ty v = v) (hfit : fits ty v = true) (hl' : k < fs.length) (hset : (wd u).set q0 (a, .inr (ci, fs.set k v)) = wd u') (hd : decode cc pc = .ok (.putfield index, 3)) (kk : RR l D cl tys Ev own cc nL Ts rm ret wd post mc ms kc ks (pc + 3) lv st u') : RR l D cl tys Ev own cc nL Ts rm ret wd post mc ms kc ks pc lv (v :: .ref a :: st) u := by
  intro p e s m args below meth c A H locs ls hX hP hD hS hl
  obtain ⟨C, T, N, ref, h1, h2, h3, h4, h5⟩ := F
  obtain ⟨C', T', N', ty0, g2, g3, g4, g5, g6⟩ := Fw
  obtain ⟨rfl, rfl, rfl⟩ : C = C' ∧ T = T' ∧ N = N' := by
    have h := Option.some.inj (h2.symm.trans g2)
    simp only [Prod.mk.injEq] at h
    exact h
  obtain ⟨hx, hb, -, hown, hts, hK, -⟩ := id hX
  refine va_put hx hb hts h1 ty0 g3 g4 hown hK hP hD hS q0 he h2 k h3 (hts _ h4) (fun x9 h9 => ?_) g5 g6 hn hfit hl' hd (fun H1 locs1 hP1 hD1 hS1 => ?_)
  · rcases h5 with h5 | h5
    · rw [h5]; exact h9
    · exact u_same (hts _ h5) x9 h9
  · rw [hset] at hP1 hD1
    exact kk p e s m args below meth c A H1 locs1 ls hX hP1 hD1 hS1 hl

theorem x_iald {q0 t0 a n : Nat} {cA : ClassId} {f : Nat → Int32} {i : Int32} (he : (wd u)[q0]? = some (a, .inl (cA, n, .inl f))) (ht : tys[t0]? = some (cA, .int)) (hin : vp_in i n) (hd : decode cc pc = .ok (.iaload, 1)) (kk : RR l D cl tys Ev own cc nL Ts rm ret wd post mc ms kc ks (pc + 1) lv (.int (f i.toNatClampNeg) :: st) u) : RR l D cl tys Ev own cc nL Ts rm ret wd post mc ms kc ks pc lv (.int i :: .ref a :: st) u := by
  intro p e s m args below meth c A H locs ls hX hP hD hS hl
  exact va_iald hX.1 hX.2.1 hX.2.2.2.2.2.1 hP q0 t0 he ht hin hd (kk p e s m args below meth c A H locs ls hX hP hD hS hl)

theorem x_cald {q0 t0 a n : Nat} {cA : ClassId} {f : Nat → Int32} {i : Int32} (he : (wd u)[q0]? = some (a, .inl (cA, n, .inl f))) (ht : tys[t0]? = some (cA, .char)) (hin : vp_in i n) (hd : decode cc pc = .ok (.caload, 1)) (kk : RR l D cl tys Ev own cc nL Ts rm ret wd post mc ms kc ks (pc + 1) lv (.int (f i.toNatClampNeg) :: st) u) : RR l D cl tys Ev own cc nL Ts rm ret wd post mc ms kc ks pc lv (.int i :: .ref a :: st) u := by
  intro p e s m args below meth c A H locs ls hX hP hD hS hl
  exact va_cald hX.1 hX.2.1 hX.2.2.2.2.2.1 hP q0 t0 he ht hin hd (kk p e s m args below meth c A H locs ls hX hP hD hS hl)

theorem x_zald {q0 t0 a n : Nat} {cA : ClassId} {f : Nat → Int32} {i : Int32} (he : (wd u)[q0]? = some (a, .inl (cA, n, .inl f))) (ht : tys[t0]? = some (cA, .boolean)) (hin : vp_in i n) (hd : decode cc pc = .ok (.baload, 1)) (kk : RR l D cl tys Ev own cc nL Ts rm ret wd post mc ms kc ks (pc + 1) lv (.int (f i.toNatClampNeg) :: st) u) : RR l D cl tys Ev own cc nL Ts rm ret wd post mc ms kc ks pc lv (.int i :: .ref a :: st) u := by
  intro p e s m args below meth c A H locs ls hX hP hD hS hl
  exact va_zald hX.1 hX.2.1 hX.2.2.2.2.2.1 hP q0 t0 he ht hin hd (kk p e s m args below meth c A H locs ls hX hP hD hS hl)

theorem x_lald {q0 t0 a n : Nat} {cA : ClassId} {f : Nat → Int64} {i : Int32} (he : (wd u)[q0]? = some (a, .inl (cA, n, .inr (.inl f)))) (ht : tys[t0]? = some (cA, .long)) (hin : vp_in i n) (hd : decode cc pc = .ok (.laload, 1)) (kk : RR l D cl tys Ev own cc nL Ts rm ret wd post mc ms kc ks (pc + 1) lv (.long (f i.toNatClampNeg) :: st) u) : RR l D cl tys Ev own cc nL Ts rm ret wd post mc ms kc ks pc lv (.int i :: .ref a :: st) u := by
  intro p e s m args below meth c A H locs ls hX hP hD hS hl
  exact va_lald hX.1 hX.2.1 hX.2.2.2.2.2.1 hP q0 t0 he ht hin hd (kk p e s m args below meth c A H locs ls hX hP hD hS hl)
theorem x_aald {q0 t0 a n : Nat} {cA : ClassId} {C : String} {f : Nat → Option Nat} {i : Int32} (he : (wd u)[q0]? = some (a, .inl (cA, n, .inr (.inr (.inr (.inr f)))))) (ht : tys[t0]? = some (cA, .object C)) (hin : vp_in i n) (hd : decode cc pc = .ok (.aaload, 1)) (kk : RR l D cl tys Ev own cc nL Ts rm ret wd post mc ms kc ks (pc + 1) lv (va_rf (f i.toNatClampNeg) :: st) u) : RR l D cl tys Ev own cc nL Ts rm ret wd post mc ms kc ks pc lv (.int i :: .ref a :: st) u := by
  intro p e s m args below meth c A H locs ls hX hP hD hS hl
  exact va_aldq hX.1 hX.2.1 hX.2.2.2.2.2.1 hP q0 t0 he ht hin hd (kk p e s m args below meth c A H locs ls hX hP hD hS hl)

theorem x_iast {q0 t0 a n : Nat} {cA : ClassId} {f : Nat → Int32} {i x : Int32} (he : (wd u)[q0]? = some (a, .inl (cA, n, .inl f))) (ht : tys[t0]? = some (cA, .int)) (hin : vp_in i n) (hset : (wd u).set q0 (a, .inl (cA, n, .inl (upd f i.toNatClampNeg x))) = wd u') (hd : decode cc pc = .ok (.iastore, 1)) (kk : RR l D cl tys Ev own cc nL Ts rm ret wd post mc ms kc ks (pc + 1) lv st u') : RR l D cl tys Ev own cc nL Ts rm ret wd post mc ms kc ks pc lv (.int x :: .int i :: .ref a :: st) u := by
  intro p e s m args below meth c A H locs ls hX hP hD hS hl
  refine va_iast hX.1 hX.2.1 hX.2.2.2.2.2.1 hP hD hS q0 t0 he ht hin hd (fun H1 locs1 hP1 hD1 hS1 => ?_)
  rw [hset] at hP1 hD1
  exact kk p e s m args below meth c A H1 locs1 ls hX hP1 hD1 hS1 hl

theorem x_cast {q0 t0 a n : Nat} {cA : ClassId} {f : Nat → Int32} {i x : Int32} (he : (wd u)[q0]? = some (a, .inl (cA, n, .inl f))) (ht : tys[t0]? = some (cA, .char)) (hin : vp_in i n) (hset : (wd u).set q0 (a, .inl (cA, n, .inl (upd f i.toNatClampNeg (vp_nar .char x)))) = wd u') (hd : decode cc pc = .ok (.castore, 1)) (kk : RR l D cl tys Ev own cc nL Ts rm ret wd post mc ms kc ks (pc + 1) lv st u') : RR l D cl tys Ev own cc nL Ts rm ret wd post mc ms kc ks pc lv (.int x :: .int i :: .ref a :: st) u := by
  intro p e s m args below meth c A H locs ls hX hP hD hS hl
  refine va_cast hX.1 hX.2.1 hX.2.2.2.2.2.1 hP hD hS q0 t0 he ht hin hd (fun H1 locs1 hP1 hD1 hS1 => ?_)
  rw [hset] at hP1 hD1
  exact kk p e s m args below meth c A H1 locs1 ls hX hP1 hD1 hS1 hl

theorem x_zast {q0 t0 a n : Nat} {cA : ClassId} {f : Nat → Int32} {i x : Int32} (he : (wd u)[q0]? = some (a, .inl (cA, n, .inl f))) (ht : tys[t0]? = some (cA, .boolean)) (hin : vp_in i n) (hset : (wd u).set q0 (a, .inl (cA, n, .inl (upd f i.toNatClampNeg (vp_nar .boolean x)))) = wd u') (hd : decode cc pc = .ok (.bastore, 1)) (kk : RR l D cl tys Ev own cc nL Ts rm ret wd post mc ms kc ks (pc + 1) lv st u') : RR l D cl tys Ev own cc nL Ts rm ret wd post mc ms kc ks pc lv (.int x :: .int i :: .ref a :: st) u := by
  intro p e s m args below meth c A H locs ls hX hP hD hS hl
  refine va_zast hX.1 hX.2.1 hX.2.2.2.2.2.1 hP hD hS q0 t0 he ht hin hd (fun H1 locs1 hP1 hD1 hS1 => ?_)
  rw [hset] at hP1 hD1
  exact kk p e s m args below meth c A H1 locs1 ls hX hP1 hD1 hS1 hl

theorem x_last {q0 t0 a n : Nat} {cA : ClassId} {f : Nat → Int64} {i : Int32} {x : Int64} (he : (wd u)[q0]? = some (a, .inl (cA, n, .inr (.inl f)))) (ht : tys[t0]? = some (cA, .long)) (hin : vp_in i n) (hset : (wd u).set q0 (a, .inl (cA, n, .inr (.inl (vp_updL f i.toNatClampNeg x)))) = wd u') (hd : decode cc pc = .ok (.lastore, 1)) (kk : RR l D cl tys Ev own cc nL Ts rm ret wd post mc ms kc ks (pc + 1) lv st u') : RR l D cl tys Ev own cc nL Ts rm ret wd post mc ms kc ks pc lv (.long x :: .int i :: .ref a :: st) u := by
  intro p e s m args below meth c A H locs ls hX hP hD hS hl
  refine va_last hX.1 hX.2.1 hX.2.2.2.2.2.1 hP hD hS q0 t0 he ht hin hd (fun H1 locs1 hP1 hD1 hS1 => ?_)
  rw [hset] at hP1 hD1
  exact kk p e s m args below meth c A H1 locs1 ls hX hP1 hD1 hS1 hl

theorem x_objInit {idx a : Nat} (h1 : Cond.methodLink own idx objectInit ∈ Ts) (h2 : Cond.instanceMethod objectInit ∈ Ts) (h3 : Cond.code objectInit ⟨#[0xb1]⟩ 1 none ∈ Ts) (hr : (st.map fun v => v.category).sum ≤ 8) (hf : 1 ≤ rm.frames) (hlo : 20 ≤ rm.locals) (hd : decode cc pc = .ok (.invokespecial idx, 3)) (kk : RR l D cl tys Ev own cc nL Ts rm ret wd post mc ms kc ks (pc + 3) lv st u) : RR l D cl tys Ev own cc nL Ts rm ret wd post mc ms kc ks pc lv (.ref a :: st) u := by
  intro p e s m args below meth c A H locs ls hX hP hD hS hl
  obtain ⟨hx, hb, hml, hown, hts, -⟩ := id hX
  have h8 := lv_room (m := m) (pc := pc) (ls := ls) (rest := .ref a :: st) hr
  exact W.objInit hx hb hown (hts _ h1) (hts _ h2) (hts _ h3) rfl (by rw [hml]; exact hl.1) rfl hd hf (by omega) (kk p e s m args below meth c A H locs ls hX hP hD hS hl)
theorem x_newA {atype : ArrayType} {ty : FieldType} {t0 N' : Nat} {cA : ClassId} {n : Int32} {a0 : vp_A} (hw : Cond.arrayClass (newarray.typeOf atype) ∈ Ts) (hty : newarray.typeOf atype = ty) (hpr : ∀ C, ty ≠ .object C) (ht : tys[t0]? = some (cA, ty)) (ha : ∀ cA : ClassId, vp_cell cA a0 = arrV cA N' (fun _ => defaultValue ty)) (hn : ¬ n < 0) (hN : n.toNatClampNeg = N') (hbytes : N' * componentBytes ty ≤ 536870912) (hc : kc + 1 ≤ rm.cells) (hs : ks + N' ≤ rm.slots) (hd : decode cc pc = .ok (.newarray atype, 2))
    (kk : ∀ (q : Nat) (u1 : S), wd u1 = wd u ++ [(q, .inl (cA, a0))] → RR l D cl tys Ev own cc nL Ts rm ret wd post mc ms (kc + 1) (ks + N') (pc + 2) lv (.ref q :: st) u1) (hmk : ∀ q : Nat, ∃ u1 : S, wd u1 = wd u ++ [(q, .inl (cA, a0))]) : RR l D cl tys Ev own cc nL Ts rm ret wd post mc ms kc ks pc lv (.int n :: st) u := by
  intro p e s m args below meth c A H locs ls hX hP hD hS hl
  obtain ⟨hx, hb, hml, hown, hts, hK, -, -, -, hA⟩ := id hX
  refine va_newa hx hb (hts _ hw) hty hK hP hD hS hA ha hn hN hbytes hc hs hd (fun q cA1 H1 hK1 hP1 hD1 hS1 => ?_)
  have e1 := (hK1.2 tys.length (cA1, ty) (by simp)).2
  have e2 := (hK.2 t0 (cA, ty) ht).2
  have e3 : cA1 = cA := by
    cases ty with
    | object C => exact absurd rfl (hpr C)
    | _ => exact Option.some.inj (Eq.trans (Eq.symm e1) e2)
  subst e3
  obtain ⟨u1, hu1⟩ := hmk q
  exact kk q u1 hu1 p e s m args below meth c A H1 locs ls hX (by rw [hu1]; exact hP1) (by rw [hu1]; exact hD1) hS1 hl
theorem x_newQ {index t0 N' : Nat} {C : String} {cA : ClassId} {n : Int32} (hw : Cond.classLink own index C ∈ Ts) (hao : ∀ (s : State) (A : Nat → Prop), Ev A s → va_AO C s) (ht : tys[t0]? = some (cA, .object C)) (hn : ¬ n < 0) (hN : n.toNatClampNeg = N') (hbytes : N' * 4 ≤ 536870912) (hc : kc + 1 ≤ rm.cells) (hs : ks + N' ≤ rm.slots) (hd : decode cc pc = .ok (.anewarray index, 3))
    (kk : ∀ (q : Nat) (u1 : S), wd u1 = wd u ++ [(q, .inl (cA, N', .inr (.inr (.inr (.inr (fun _ => none))))))] → RR l D cl tys Ev own cc nL Ts rm ret wd post mc ms (kc + 1) (ks + N') (pc + 3) lv (.ref q :: st) u1) (hmk : ∀ q : Nat, ∃ u1 : S, wd u1 = wd u ++ [(q, .inl (cA, N', .inr (.inr (.inr (.inr (fun _ => none))))))]) : RR l D cl tys Ev own cc nL Ts rm ret wd post mc ms kc ks pc lv (.int n :: st) u := by
  intro p e s m args below meth c A H locs ls hX hP hD hS hl
  obtain ⟨hx, hb, hml, hown, hts, hK, hE, -, -, hA⟩ := id hX
  refine va_newq hx hb hown (hts _ hw) (hao s A hE) hK hP hD hS hA hn hN hbytes hc hs hd (fun q cA1 H1 hK1 hP1 hD1 hS1 => ?_)
  obtain ⟨_, _, _, _, _, e1⟩ := (hK1.2 tys.length (cA1, .object C) (by simp)).2
  obtain ⟨_, _, _, _, _, e2⟩ := (hK.2 t0 (cA, .object C) ht).2
  have e3 : cA1 = cA := Option.some.inj (Eq.trans (Eq.symm e1) e2)
  subst e3
  obtain ⟨u1, hu1⟩ := hmk q
  exact kk q u1 hu1 p e s m args below meth c A H1 locs ls hX (by rw [hu1]; exact hP1) (by rw [hu1]; exact hD1) hS1 hl
theorem x_new {index ci N : Nat} {C : String} {T : u_T} {ty : Nat → FieldType} {fs : List Value} (hin : ∀ w ∈ u_ws C T N, w ∈ Ts) (hty : ∀ k, k < N → parseFieldDescriptor (T k).2.2.1 = some (ty k)) (hcl : Cond.classLink own index C ∈ Ts) (hinst : Cond.instantiable C N ∈ Ts) (hini : Cond.initialized C ∈ Ts) (hcc : cl[ci]? = some (C, T, N)) (hfs : ∀ j, j < N → defaultValue (ty j) = vp_V fs j) (hc : kc + 1 ≤ rm.cells) (hs : ks + N ≤ rm.slots) (hd : decode cc pc = .ok (.new index, 3))
    (kk : ∀ (q : Nat) (u1 : S), wd u1 = wd u ++ [(q, .inr (ci, fs))] → RR l D cl tys Ev own cc nL Ts rm ret wd post mc ms (kc + 1) (ks + N) (pc + 3) lv (.ref q :: st) u1) (hmk : ∀ q : Nat, ∃ u1 : S, wd u1 = wd u ++ [(q, .inr (ci, fs))]) : RR l D cl tys Ev own cc nL Ts rm ret wd post mc ms kc ks pc lv st u := by
  intro p e s m args below meth c A H locs ls hX hP hD hS hl
  obtain ⟨hx, hb, hml, hown, hts, hK, -, -, -, hA⟩ := id hX
  refine va_new hx hb hts hin ty hty hown (hts _ hcl) (hts _ hinst) (hts _ hini) hK hP hD hS hA hcc hfs hc hs hd (fun q H1 hP1 hD1 hS1 => ?_)
  obtain ⟨u1, hu1⟩ := hmk q
  exact kk q u1 hu1 p e s m args below meth c A H1 locs ls hX (by rw [hu1]; exact hP1) (by rw [hu1]; exact hD1) hS1 hl

theorem x_swout {x : Int32} {lo hi : Int} {n : Nat} (hn : hi = lo + n) (h : ∀ k : Nat, k ≤ n → ¬ x.toInt = lo + k) : x.toInt < lo ∨ hi < x.toInt := by
  by_cases h1 : x.toInt < lo
  · exact Or.inl h1
  · by_cases h2 : hi < x.toInt
    · exact Or.inr h2
    · exact absurd (by omega) (h (x.toInt - lo).toNat (by omega))

theorem xC.of {y : MethodName} {ws ws' : List Cond} {av : List Value} (hy : plainName y.cls = true) (hw : ws = Cond.code y cc nL ret :: ws') (hlen : (lg_sl av).length ≤ nL) (h : RR l D cl tys Ev y.cls cc nL ws rm ret wd post mc ms 0 0 0 (lv_args 0 av) [] u) : xC l D cl tys Ev y ws rm wd av u post mc ms := by
  intro sz
  refine Met.ofW (cc := cc) (maxL := nL) (ret := ret) hy hw ?_
  intro p e s m args below meth c s₁ B hml hv
  obtain ⟨rfl, hsz, hP, hK, hD0, hE⟩ := hv
  have hx := B.exec
  have hb := B.bytes
  have hr := B.returns
  have hts := atoms_spec (ws := ws) B.pre
  have hown : s.vm.findClass y.cls = some m.cls := findClass_of_methodNamed B.named
  have hlocks := B.notSynchronized
  subst hsz
  have hD := hD0.self (sz := s.heap.size)
  have hl := lv_entry av (n := nL) hlen
  rw [lg_entry_eq]
  exact h p e s m av.toArray below meth c _ s.heap [] _ ⟨hx, hb, hml, hown, hts, hK, hE, hlocks, hr, fun q h => Or.inr h⟩ hP hD va_S.rf hl
end RL
end
section
section RC
/-- what stays: facts of the tables and of cells that no method here writes -/
def xEok (Ev : (Nat → Prop) → State → Prop) : Prop := (∀ (A A' : Nat → Prop) (s U : State), Ev A s → s.WarmedH U.vm → s.heap.size ≤ U.heap.size → (∀ q : Nat, q < s.heap.size → ¬ A q → U.heap[q]? = s.heap[q]?) → (∀ q, A' q → A q) → Ev A' U) ∧ ∀ (A : Nat → Prop) (U : State) (g : JFrame) (mk : MethodId) (a : Array Value), Ev A U → Ev A (U.calling g mk a)
variable {S Sz : Type} {l : Launch} {D : va_G} {cl : List vw_C} {tys : List (ClassId × FieldType)} {Ev : (Nat → Prop) → State → Prop} {own : String} {cc : ByteArray} {nL : Nat} {Ts : List Cond} {rm : Room} {ret : Option FieldType} {wd : S → va_W} {post : Option Value → S → Prop} {mc ms kc ks : Nat} {pc : Nat} {lv lv' : List (Nat × Value)} {st : List Value} {u u' : S}
theorem xB.blind (hE : xEok Ev) {wd : S → va_W} {u : S} {sz : Nat} {av : List Value} : FrameBlind (va_Pc av (xB D cl tys Ev wd u sz)) := by
  intro a U g mk q
  obtain ⟨q0, q1, qP, qK, qD, qE⟩ := q
  exact ⟨q0, q1, qP, va_K.moved (u := U) (U := U.calling g mk a) (Vm.Alike.refl U.vm) qK, qD, hE.2 _ _ _ _ _ qE⟩
theorem x_pre (hE : xEok Ev) {wdz : Sz → va_W} {uz : Sz} {av : List Value} {p : Program} {s : State} {m : MethodId} {args : Array Value} {meth : Method} {c : Code} {A : Nat → Prop} {H : Heap} {locs : List Loc}
    (hX : xX D cl tys Ev own cc nL Ts ret p s m args meth c A) (hS : va_S A s.heap H locs) (hPz : va_P D cl (wdz uz) H) (hDz : va_D A (wdz uz)) (U : State) (hU : U.heap = H) (hW : s.WarmedH U.vm) : va_Pc av (xB D cl tys Ev wdz uz H.size) av.toArray U := by
  obtain ⟨-, -, -, -, -, hK, hEv, -, -, hA⟩ := hX
  refine ⟨rfl, by rw [hU], by rw [hU]; exact hPz, va_K.moved hW.alike hK, hDz.weaken (fun _ _ _ _ => trivial), ?_⟩
  refine hE.1 A _ s U hEv hW (by rw [hU]; exact hS.1) (fun q h1 h2 => by rw [hU]; exact hS.2.1 q h1 h2) (fun q h => ?_)
  rcases h with ⟨k, e, h⟩ | h
  · exact hDz.2 k _ h
  · exact hA q (Nat.le_trans hS.1 h)
/-- behind a call: what came back -/
theorem x_back {p : Program} {e : Env} {s : State} {m : MethodId} {args : Array Value} {below : List Frame} {meth : Method} {c : Code} {A : Nat → Prop} {H : Heap} {locs : List Loc} {ls : Array Slot} {st0 rest : List Value} {a : Array Value} {cz sz : Nat} {Q : State → Prop}
    {wdz : Sz → va_W} {uz : Sz} {pz : Option Value → Sz → Prop}
    (hr : va_Run p l e rm s m args below meth c H locs kc ks cz sz (F0 m pc ls st0) rest (xQ D cl wdz (va_A (wdz uz) H.size) pz a) (va_A (wdz uz) H.size)) (hS : va_S A s.heap H locs) (hF : ∀ q, va_A (wdz uz) H.size q → A q)
    (kk : ∀ (r : Option Value) (u1 : Sz) (H1 : Heap) (locs1 : List Loc), pz r u1 → va_P D cl (wdz u1) H1 → va_D (va_A (wdz uz) H.size) (wdz u1) → H.size ≤ H1.size → (∀ q : Nat, q < H.size → ¬ va_A (wdz uz) H.size q → H1[q]? = H[q]?) → va_S A s.heap H1 locs1 → W p l e rm s m args below meth c H1 locs1 (kc + cz) (ks + sz) Q (F0 m (pc + 3) ls (r.toList ++ rest))) : W p l e rm s m args below meth c H locs kc ks Q (F0 m pc ls st0) := by
  intro T hT X
  obtain ⟨v, st₀, t, T', L, h0, X', hL, e1, e2, ⟨⟨r, u1, hv, hp, hP1, hD1⟩, hz, hk⟩, st⟩ := hr T hT X
  cases hv
  rw [h0] at hz hk
  obtain ⟨t2, a1, b1⟩ := kk v u1 T'.heap (locs ++ L) hp (by rw [e1]; exact hP1) hD1 (by rw [e1]; exact hz) (fun q h1 h2 => by rw [e1]; exact hk q h1 h2)
    ⟨Nat.le_trans hS.1 (by rw [e1]; exact hz), fun q h1 h2 => by rw [e1, hk q (Nat.lt_of_lt_of_le h1 hS.1) (fun z => h2 (hF q z))]; exact hS.2.1 q h1 h2, fun q hq => by
      rcases List.mem_append.mp hq with h | h
      · exact hS.2.2 q h
      · exact hF _ (hL q h)⟩ T' rfl X'
  exact ⟨t2, st t2 a1, b1⟩
theorem x_freeS {A : Nat → Prop} {s : State} {H : Heap} {locs : List Loc} {wz : va_W} (hA : ∀ q, s.heap.size ≤ q → A q) (hS : va_S A s.heap H locs) (hD : va_D A wz) : ∀ q, va_A wz H.size q → A q := by
  intro q h
  rcases h with ⟨k, e, h⟩ | h
  · exact hD.2 k _ h
  · exact hA q (Nat.le_trans hS.1 h)
theorem x_Pi {ws : va_W} {H : Heap} : va_P D cl ws H ↔ ∀ q ∈ ws, va_at D cl q H :=
  ⟨fun h q hq => by
    obtain ⟨i, hi⟩ := List.getElem?_of_mem hq
    exact h i q hi, fun h k q hk => h q (List.mem_of_getElem? hk)⟩
theorem x_Di {A : Nat → Prop} {ws : va_W} : va_D A ws ↔ ws.Pairwise (fun a b => a.1 ≠ b.1) ∧ ∀ q ∈ ws, A q.1 := by
  constructor
  · intro h
    refine ⟨?_, fun q hq => ?_⟩
    · have key : ∀ (w : va_W), (∀ (i j : Nat) (p q : Nat × va_E), w[i]? = some p → w[j]? = some q → p.1 = q.1 → i = j) → w.Pairwise (fun a b => a.1 ≠ b.1) := by
        intro w
        induction w with
        | nil => intro _; exact List.Pairwise.nil
        | cons a w ih =>
          intro hw
          refine List.Pairwise.cons (fun b hb hab => ?_) (ih (fun i j p q hi hj hpq => ?_))
          · obtain ⟨i, hi⟩ := List.getElem?_of_mem hb
            have := hw 0 (i + 1) a b (by simp) (by simpa using hi) hab
            omega
          · have := hw (i + 1) (j + 1) p q (by simpa using hi) (by simpa using hj) hpq
            omega
      exact key ws h.1
    · obtain ⟨i, hi⟩ := List.getElem?_of_mem hq
      exact h.2 i q hi
  · intro ⟨h1, h2⟩
    refine ⟨?_, fun k q hk => h2 q (List.mem_of_getElem? hk)⟩
    have key : ∀ (w : va_W), w.Pairwise (fun a b => a.1 ≠ b.1) → ∀ (i j : Nat) (p q : Nat × va_E), w[i]? = some p → w[j]? = some q → p.1 = q.1 → i = j := by
      intro w
      induction w with
      | nil => intro _ i j p q hi; simp at hi
      | cons a w ih =>
        intro hw i j p q hi hj hpq
        obtain ⟨g1, g2⟩ := List.pairwise_cons.mp hw
        cases i with
        | zero =>
          cases j with
          | zero => rfl
          | succ j =>
            simp at hi hj
            subst hi
            exact absurd hpq (g1 q (List.mem_of_getElem? hj))
        | succ i =>
          cases j with
          | zero =>
            simp at hi hj
            subst hj
            exact absurd hpq.symm (g1 p (List.mem_of_getElem? hi))
          | succ j =>
            simp at hi hj
            rw [ih g2 i j p q hi hj hpq]
    exact key ws h1
theorem x_Pp {ws ws' : va_W} {H : Heap} (h : va_P D cl ws H) (hp : ws.Perm ws') : va_P D cl ws' H := x_Pi.mpr (fun q hq => x_Pi.mp h q (hp.mem_iff.mpr hq))
theorem x_Dp {A : Nat → Prop} {ws ws' : va_W} (h : va_D A ws) (hp : ws.Perm ws') : va_D A ws' := by
  obtain ⟨h1, h2⟩ := x_Di.mp h
  exact x_Di.mpr ⟨(hp.pairwise_iff (fun h => Ne.symm h)).mp h1, fun q hq => h2 q (hp.mem_iff.mpr hq)⟩
/-- the frame: the rest wr stays, the callee's wc becomes w1 -/
theorem x_join {A : Nat → Prop} {wr wc w1 : va_W} {H H1 : Heap} (hP : va_P D cl (wr ++ wc) H) (hD : va_D A (wr ++ wc)) (hk : ∀ q : Nat, q < H.size → ¬ va_A wc H.size q → H1[q]? = H[q]?) (hF : ∀ q, va_A wc H.size q → A q) (hP1 : va_P D cl w1 H1) (hD1 : va_D (va_A wc H.size) w1) : va_P D cl (wr ++ w1) H1 ∧ va_D A (wr ++ w1) := by
  obtain ⟨g1, g2⟩ := x_Di.mp hD
  obtain ⟨p1, p2, p3⟩ := List.pairwise_append.mp g1
  obtain ⟨d1, d2⟩ := x_Di.mp hD1
  have hlt : ∀ q ∈ wr, q.1 < H.size := fun q hq => (x_Pi.mp hP q (List.mem_append_left _ hq)).lt
  have hout : ∀ q ∈ wr, ¬ va_A wc H.size q.1 := by
    intro q hq h
    rcases h with ⟨k, e, h⟩ | h
    · exact p3 q hq (q.1, e) (List.mem_of_getElem? h) rfl
    · have := hlt q hq
      omega
  refine ⟨x_Pi.mpr (fun q hq => ?_), x_Di.mpr ⟨List.pairwise_append.mpr ⟨p1, d1, fun a ha b hb hab => ?_⟩, fun q hq => ?_⟩⟩
  · rcases List.mem_append.mp hq with h | h
    · exact (x_Pi.mp hP q (List.mem_append_left _ h)).kept (hk q.1 (hlt q h) (hout q h))
    · exact x_Pi.mp hP1 q h
  · exact hout a ha (by rw [hab]; exact d2 b hb)
  · rcases List.mem_append.mp hq with h | h
    · exact g2 q (List.mem_append_left _ h)
    · exact hF _ (d2 q h)
/-- how the callee's world stands in the caller's: beside the rest wr; put says the caller's state behind the call -/
def xLens (wd : S → va_W) (u : S) (wdz : Sz → va_W) (uz : Sz) (put : Sz → S) : Prop := ∃ wr : va_W, (wd u).Perm (wr ++ wdz uz) ∧ ∀ u1 : Sz, (wr ++ wdz u1).Perm (wd (put u1))
theorem x_lens {p : Program} {e : Env} {s : State} {m : MethodId} {args : Array Value} {below : List Frame} {meth : Method} {c : Code} {A : Nat → Prop} {H : Heap} {locs : List Loc} {ls : Array Slot} {st0 rest : List Value} {a : Array Value} {cz sz : Nat}
    {wdz : Sz → va_W} {uz : Sz} {put : Sz → S} {pz : Option Value → Sz → Prop} (L : xLens wd u wdz uz put)
    (hX : xX D cl tys Ev own cc nL Ts ret p s m args meth c A) (hP : va_P D cl (wd u) H) (hD : va_D A (wd u)) (hS : va_S A s.heap H locs) (hl : lv_has ls nL lv)
    (hr : va_P D cl (wdz uz) H → va_D A (wdz uz) → va_Run p l e rm s m args below meth c H locs kc ks cz sz (F0 m pc ls st0) rest (xQ D cl wdz (va_A (wdz uz) H.size) pz a) (va_A (wdz uz) H.size))
    (kk : ∀ (r : Option Value) (u1 : Sz), pz r u1 → RR l D cl tys Ev own cc nL Ts rm ret wd post mc ms (kc + cz) (ks + sz) (pc + 3) lv (r.toList ++ rest) (put u1)) : W p l e rm s m args below meth c H locs kc ks (MQ below (xQ D cl wd A post) args s mc ms A) (F0 m pc ls st0) := by
  obtain ⟨wr, hC, hput⟩ := L
  have hP0 := x_Pp hP hC
  have hD0 := x_Dp hD hC
  have hPz : va_P D cl (wdz uz) H := x_Pi.mpr (fun q hq => x_Pi.mp hP0 q (List.mem_append_right _ hq))
  have hDz : va_D A (wdz uz) := x_Di.mpr ⟨(List.pairwise_append.mp (x_Di.mp hD0).1).2.1, fun q hq => (x_Di.mp hD0).2 q (List.mem_append_right _ hq)⟩
  have hF := x_freeS hX.2.2.2.2.2.2.2.2.2 hS hDz
  refine x_back (hr hPz hDz) hS hF (fun r u1 H1 locs1 hp hP1 hD1 hz hk hS1 => ?_)
  obtain ⟨hP2, hD2⟩ := x_join (wr := wr) (w1 := wdz u1) hP0 hD0 hk hF hP1 hD1
  exact kk r u1 hp p e s m args below meth c A H1 locs1 ls hX (x_Pp hP2 (hput u1)) (x_Dp hD2 (hput u1)) hS1 hl
theorem x_id {wd : S → va_W} {u : S} : xLens wd u wd u (fun z => z) := ⟨[], List.Perm.refl _, fun _ => List.Perm.refl _⟩
/-- the callee has no world of its own -/
theorem x_none {wd : S → va_W} {u : S} : xLens wd u (fun _ : Unit => ([] : va_W)) () (fun _ => u) := ⟨wd u, by rw [List.append_nil], fun _ => by rw [List.append_nil]⟩
/-- typed ends -/
def pI (P : Int32 → S → Prop) : Option Value → S → Prop := fun r u => ∃ x, r = some (.int x) ∧ P x u
def pJ (P : Int64 → S → Prop) : Option Value → S → Prop := fun r u => ∃ x, r = some (.long x) ∧ P x u
def pV (P : S → Prop) : Option Value → S → Prop := fun r u => r = none ∧ P u
theorem x_topI {x : Int32} (k : ∀ y : Int32, y = x → RR l D cl tys Ev own cc nL Ts rm ret wd post mc ms kc ks pc lv (.int y :: st) u) : RR l D cl tys Ev own cc nL Ts rm ret wd post mc ms kc ks pc lv (.int x :: st) u := k x rfl
theorem x_topJ {x : Int64} (k : ∀ y : Int64, y = x → RR l D cl tys Ev own cc nL Ts rm ret wd post mc ms kc ks pc lv (.long y :: st) u) : RR l D cl tys Ev own cc nL Ts rm ret wd post mc ms kc ks pc lv (.long x :: st) u := k x rfl
theorem x_rI {put : Sz → S} {P : Int32 → Sz → Prop} (kk : ∀ (x : Int32) (u1 : Sz), P x u1 → RR l D cl tys Ev own cc nL Ts rm ret wd post mc ms kc ks pc lv (.int x :: st) (put u1)) : ∀ (r : Option Value) (u1 : Sz), pI P r u1 → RR l D cl tys Ev own cc nL Ts rm ret wd post mc ms kc ks pc lv (r.toList ++ st) (put u1) := by
  rintro _ u1 ⟨x, rfl, h⟩
  exact kk x u1 h
theorem x_rJ {put : Sz → S} {P : Int64 → Sz → Prop} (kk : ∀ (x : Int64) (u1 : Sz), P x u1 → RR l D cl tys Ev own cc nL Ts rm ret wd post mc ms kc ks pc lv (.long x :: st) (put u1)) : ∀ (r : Option Value) (u1 : Sz), pJ P r u1 → RR l D cl tys Ev own cc nL Ts rm ret wd post mc ms kc ks pc lv (r.toList ++ st) (put u1) := by
  rintro _ u1 ⟨x, rfl, h⟩
  exact kk x u1 h
theorem x_rV {put : Sz → S} {P : Sz → Prop} (kk : ∀ (u1 : Sz), P u1 → RR l D cl tys Ev own cc nL Ts rm ret wd post mc ms kc ks pc lv st (put u1)) : ∀ (r : Option Value) (u1 : Sz), pV P r u1 → RR l D cl tys Ev own cc nL Ts rm ret wd post mc ms kc ks pc lv (r.toList ++ st) (put u1) := by
  rintro _ u1 ⟨rfl, h⟩
  exact kk u1 h
/-- the room of a method that makes nothing, with at most d calls in one another -/
def rmD (d : Nat) : Room := { frames := d, cells := 0, slots := 0, locals := 64 * d }
/-- the callee's room in the caller's -/
def xRm (rm rmz : Room) (nz cz sz kc ks : Nat) : Prop := (rmz.cells = cz ∧ rmz.slots = sz) ∧ (rmz.frames + 1 ≤ rm.frames ∧ 8 + (nz + 11) + rmz.locals ≤ rm.locals) ∧ kc + cz ≤ rm.cells ∧ ks + sz ≤ rm.slots
theorem rmD_ok {a b nz : Nat} (h : a + 1 ≤ b) (hn : nz ≤ 45) : xRm (rmD b) (rmD a) nz 0 0 0 0 := by
  refine ⟨⟨rfl, rfl⟩, ⟨h, ?_⟩, Nat.le_refl _, Nat.le_refl _⟩
  show 8 + (nz + 11) + 64 * a ≤ 64 * b
  omega
/-- the callee's words -/
def xkB (Ts : List Cond) (y : MethodName) (bz : ByteArray) (nz : Nat) (rz : Option FieldType) (wz : List Cond) (n : Nat) : Prop := GoodIn Ts wz ∧ (∃ w', wz = Cond.code y bz nz rz :: w') ∧ Cond.initialized y.cls ∈ Ts ∧ (y.cls ≠ "java/lang/invoke/MethodHandle" ∧ y.cls ≠ "java/lang/invoke/VarHandle" ∧ (parseMethodDescriptor y.desc).map (fun d => d.parameters.length) = some n)
def xkS (Ts : List Cond) (own : String) (index : Nat) (y : MethodName) (bz : ByteArray) (nz : Nat) (rz : Option FieldType) (wz : List Cond) (n : Nat) : Prop := xkB Ts y bz nz rz wz n ∧ Cond.methodLink own index y ∈ Ts ∧ Cond.static y ∈ Ts
def xkV (Ts : List Cond) (own : String) (index : Nat) (C : String) (y : MethodName) (bz : ByteArray) (nz : Nat) (rz : Option FieldType) (wz : List Cond) (n : Nat) : Prop := xkB Ts y bz nz rz wz n ∧ Cond.methodLink own index y ∈ Ts ∧ Cond.instanceMethod y ∈ Ts ∧ ∀ (args : Array Value) (s : State), (∀ w ∈ Ts, w.before args s = true) → (Cond.selects C y y).before args s = true
/-- an inherited method: x is what the instruction names, y what is run -/
def xkU (Ts : List Cond) (own : String) (index : Nat) (C owner : String) (x y : MethodName) (bz : ByteArray) (nz : Nat) (rz : Option FieldType) (wz : List Cond) (n : Nat) : Prop := xkB Ts y bz nz rz wz n ∧ Cond.methodLink own index x ∈ Ts ∧ Cond.sameMethod x.cls owner x.name x.desc ∈ Ts ∧ Cond.instanceMethod y ∈ Ts ∧ Cond.selects C x y ∈ Ts ∧ y = ⟨owner, x.name, x.desc⟩
/-- a private method of a class above C: of C's objects the call goes to it -/
theorem x_selP {C : String} {x0 y0 y : MethodName} {args : Array Value} {s : State} (hc : y.cls = y0.cls) (hy : y.cls ≠ "java/lang/invoke/MethodHandle" ∧ y.cls ≠ "java/lang/invoke/VarHandle") (hsel : (Cond.selects C x0 y0).before args s = true) (hpriv : (Cond.privateMethod y).before args s = true) (hinst : (Cond.instanceMethod y).before args s = true) : (Cond.selects C y y).before args s = true := by
  obtain ⟨c2, r2, m2, q1, q2, q3, q4, kP, hkP, hkPi⟩ := Cond.selects_spec hsel
  obtain ⟨mk, methM, hnamed, hmethM, -, -⟩ := Cond.instanceMethod_spec hinst
  have hfound : s.methodFound? y.cls y.name y.desc = some mk := State.methodFound?_of_named hnamed hy
  have h1 := findClass_of_methodNamed hnamed
  have h2 := findClass_of_methodNamed q3
  rw [hc] at h1
  have hcls : m2.cls = mk.cls := Option.some.inj (h2.symm.trans h1)
  have hs : selectMethod {} s.vm c2 mk = .method mk := selectMethod_private hmethM (Cond.privateMethod_at hpriv mk methM hnamed hmethM)
  rw [hcls] at hkP
  simp only [Cond.before, Cond.holds, Cond.value, q1, hfound, hnamed, hs, hkP]
  simp; exact hkPi
def xkI (Ts : List Cond) (own : String) (index : Nat) (y : MethodName) (bz : ByteArray) (nz : Nat) (wz : List Cond) (n : Nat) : Prop := xkB Ts y bz nz none wz n ∧ Cond.methodLink own index y ∈ Ts ∧ y.name = "<init>" ∧ Cond.instanceMethod y ∈ Ts
def xkSN (Ev : (Nat → Prop) → State → Prop) (Ts : List Cond) (own : String) (index : Nat) (y : MethodName) (bz : ByteArray) (nz : Nat) (rz : Option FieldType) (wz : List Cond) (n : Nat) : Prop := xkB Ts y bz nz rz wz n ∧ (∃ host, ∀ A s, Ev A s → va_Nw (.methodLinkNest own index y host) s) ∧ Cond.static y ∈ Ts
section RCC
variable {y : MethodName} {bz : ByteArray} {nz n index cz sz : Nat} {rz : Option FieldType} {wz : List Cond} {wdz : Sz → va_W} {uz : Sz} {put : Sz → S} {pz : Option Value → Sz → Prop} {rmz : Room} {As st0 : List Value} {a : Nat}
theorem x_callS (K : xkS Ts own index y bz nz rz wz n) (L : xLens wd u wdz uz put) (hz : xC l D cl tys Ev y wz rmz wdz As uz pz cz sz) (hE : xEok Ev) (hR : xRm rm rmz nz cz sz kc ks) (hn : As.length = n) (hw : (st.map fun v => v.category).sum ≤ 8) (hst : st0 = As.reverse ++ st) (hd : decode cc pc = .ok (.invokestatic index, 3))
    (kk : ∀ (r : Option Value) (u1 : Sz), pz r u1 → RR l D cl tys Ev own cc nL Ts rm ret wd post mc ms (kc + cz) (ks + sz) (pc + 3) lv (r.toList ++ st) (put u1)) : RR l D cl tys Ev own cc nL Ts rm ret wd post mc ms kc ks pc lv st0 u := by
  intro p e s m args below meth c A H locs ls hX hP hD hS hl
  obtain ⟨⟨hG, ⟨w', hw'⟩, hini, hdd⟩, hlk, hstt⟩ := K
  obtain ⟨hx, hb, hml, hown, hts, hK, hEv, -⟩ := id hX
  refine x_lens L hX hP hD hS hl (a := As.toArray) (fun hPz hDz => ?_) kk
  exact va_runS (As := As) (rest := st) (bytes := bz) (maxL := nz) (ret := rz) ⟨hx, hb, hml, hown, hts⟩ (hz H.size) ⟨callB_of n hts hG hw' hR.1.1 hR.1.2 (hts _ hini) (hts _ hlk) hdd hR.2.1, hts _ hstt⟩ ⟨xB.blind hE, fun U hU hW => x_pre hE hX hS hPz hDz U hU hW⟩ rfl hn hl.1 hst (lv_room hw) hd hR.2.2
theorem x_callSN (K : xkSN Ev Ts own index y bz nz rz wz n) (L : xLens wd u wdz uz put) (hz : xC l D cl tys Ev y wz rmz wdz As uz pz cz sz) (hE : xEok Ev) (hR : xRm rm rmz nz cz sz kc ks) (hn : As.length = n) (hw : (st.map fun v => v.category).sum ≤ 8) (hst : st0 = As.reverse ++ st) (hd : decode cc pc = .ok (.invokestatic index, 3))
    (kk : ∀ (r : Option Value) (u1 : Sz), pz r u1 → RR l D cl tys Ev own cc nL Ts rm ret wd post mc ms (kc + cz) (ks + sz) (pc + 3) lv (r.toList ++ st) (put u1)) : RR l D cl tys Ev own cc nL Ts rm ret wd post mc ms kc ks pc lv st0 u := by
  intro p e s m args below meth c A H locs ls hX hP hD hS hl
  obtain ⟨⟨hG, ⟨w', hw'⟩, hini, hdd⟩, ⟨host, hlk⟩, hstt⟩ := K
  obtain ⟨hx, hb, hml, hown, hts, hK, hEv, -⟩ := id hX
  refine x_lens L hX hP hD hS hl (a := As.toArray) (fun hPz hDz => ?_) kk
  exact va_runSN (As := As) (rest := st) (bytes := bz) (maxL := nz) (ret := rz) ⟨hx, hb, hml, hown, hts⟩ (hz H.size) ⟨va_cnB n hts hG hw' hR.1.1 hR.1.2 (hlk A s hEv) (hts _ hini) hdd hR.2.1, hts _ hstt, trivial⟩ ⟨xB.blind hE, fun U hU hW => x_pre hE hX hS hPz hDz U hU hW⟩ rfl hn hl.1 hst (lv_room hw) hd hR.2.2
theorem x_callV {C : String} {q0 ci : Nat} {fs : List Value} {T : u_T} {N : Nat} (K : xkV Ts own index C y bz nz rz wz n) (hc : cl[ci]? = some (C, T, N)) (he : (wd u)[q0]? = some (a, .inr (ci, fs))) (L : xLens wd u wdz uz put) (hz : xC l D cl tys Ev y wz rmz wdz (.ref a :: As) uz pz cz sz) (hE : xEok Ev) (hR : xRm rm rmz nz cz sz kc ks) (hn : As.length = n) (hw : (st.map fun v => v.category).sum ≤ 8) (hst : st0 = As.reverse ++ .ref a :: st) (hd : decode cc pc = .ok (.invokevirtual index, 3))
    (kk : ∀ (r : Option Value) (u1 : Sz), pz r u1 → RR l D cl tys Ev own cc nL Ts rm ret wd post mc ms (kc + cz) (ks + sz) (pc + 3) lv (r.toList ++ st) (put u1)) : RR l D cl tys Ev own cc nL Ts rm ret wd post mc ms kc ks pc lv st0 u := by
  intro p e s m args below meth c A H locs ls hX hP hD hS hl
  obtain ⟨⟨hG, ⟨w', hw'⟩, hini, hdd⟩, hlk, hin, hsel⟩ := K
  obtain ⟨hx, hb, hml, hown, hts, hK, hEv, -⟩ := id hX
  refine x_lens L hX hP hD hS hl (a := (.ref a :: As).toArray) (fun hPz hDz => ?_) kk
  exact va_runV (As := As) (rest := st) (b := a) (C := C) (bytes := bz) (maxL := nz) (ret := rz) ⟨hx, hb, hml, hown, hts⟩ (hz H.size) ⟨callB_of n hts hG hw' hR.1.1 hR.1.2 (hts _ hini) (hts _ hlk) hdd hR.2.1, hts _ hin, hsel _ _ hts⟩ ⟨xB.blind hE, va_recv hK hP hc he, fun U hU hW => x_pre hE hX hS hPz hDz U hU hW⟩ rfl hn hl.1 hst (lv_room hw) hd hR.2.2
/-- the receiver is no cell of the world, but one that stays -/
theorem x_callVO {C : String} (K : xkV Ts own index C y bz nz rz wz n) (hO : ∀ (A : Nat → Prop) (s : State), Ev A s → va_O C a A s s.heap) (L : xLens wd u wdz uz put) (hz : xC l D cl tys Ev y wz rmz wdz (.ref a :: As) uz pz cz sz) (hE : xEok Ev) (hR : xRm rm rmz nz cz sz kc ks) (hn : As.length = n) (hw : (st.map fun v => v.category).sum ≤ 8) (hst : st0 = As.reverse ++ .ref a :: st) (hd : decode cc pc = .ok (.invokevirtual index, 3))
    (kk : ∀ (r : Option Value) (u1 : Sz), pz r u1 → RR l D cl tys Ev own cc nL Ts rm ret wd post mc ms (kc + cz) (ks + sz) (pc + 3) lv (r.toList ++ st) (put u1)) : RR l D cl tys Ev own cc nL Ts rm ret wd post mc ms kc ks pc lv st0 u := by
  intro p e s m args below meth c A H locs ls hX hP hD hS hl
  obtain ⟨⟨hG, ⟨w', hw'⟩, hini, hdd⟩, hlk, hin, hsel⟩ := K
  obtain ⟨hx, hb, hml, hown, hts, hK, hEv, -⟩ := id hX
  refine x_lens L hX hP hD hS hl (a := (.ref a :: As).toArray) (fun hPz hDz => ?_) kk
  exact va_runV (As := As) (rest := st) (b := a) (C := C) (bytes := bz) (maxL := nz) (ret := rz) ⟨hx, hb, hml, hown, hts⟩ (hz H.size) ⟨callB_of n hts hG hw' hR.1.1 hR.1.2 (hts _ hini) (hts _ hlk) hdd hR.2.1, hts _ hin, hsel _ _ hts⟩ ⟨xB.blind hE, va_Orecv (hO A s hEv) hS, fun U hU hW => x_pre hE hX hS hPz hDz U hU hW⟩ rfl hn hl.1 hst (lv_room hw) hd hR.2.2
theorem x_callU {C owner : String} {x : MethodName} {q0 ci : Nat} {fs : List Value} {T : u_T} {N : Nat} (K : xkU Ts own index C owner x y bz nz rz wz n) (hc : cl[ci]? = some (C, T, N)) (he : (wd u)[q0]? = some (a, .inr (ci, fs))) (L : xLens wd u wdz uz put) (hz : xC l D cl tys Ev y wz rmz wdz (.ref a :: As) uz pz cz sz) (hE : xEok Ev) (hR : xRm rm rmz nz cz sz kc ks) (hn : As.length = n) (hw : (st.map fun v => v.category).sum ≤ 8) (hst : st0 = As.reverse ++ .ref a :: st) (hd : decode cc pc = .ok (.invokevirtual index, 3))
    (kk : ∀ (r : Option Value) (u1 : Sz), pz r u1 → RR l D cl tys Ev own cc nL Ts rm ret wd post mc ms (kc + cz) (ks + sz) (pc + 3) lv (r.toList ++ st) (put u1)) : RR l D cl tys Ev own cc nL Ts rm ret wd post mc ms kc ks pc lv st0 u := by
  intro p e s m args below meth c A H locs ls hX hP hD hS hl
  obtain ⟨⟨hG, ⟨w', hw'⟩, hini, hdd⟩, hlk, hsm, hin, hsel, hyx⟩ := K
  obtain ⟨hx, hb, hml, hown, hts, hK, hEv, -⟩ := id hX
  have hcw : Cond.code y bz nz rz ∈ wz := by rw [hw']; exact List.mem_cons_self
  have hlen : ∀ sig, parseMethodDescriptor x.desc = some sig → n = sig.parameters.length := fun sig h => by
    have h2 := hdd.2.2
    rw [hyx] at h2
    rw [show (⟨owner, x.name, x.desc⟩ : MethodName).desc = x.desc from rfl, h] at h2
    exact (Option.some.inj h2).symm
  have hmh : owner ≠ "java/lang/invoke/MethodHandle" ∧ owner ≠ "java/lang/invoke/VarHandle" := by
    have h1 := hdd.1
    have h2 := hdd.2.1
    rw [hyx] at h1 h2
    exact ⟨h1, h2⟩
  refine x_lens L hX hP hD hS hl (a := (.ref a :: As).toArray) (fun hPz hDz => ?_) kk
  exact va_runU (As := As) (rest := st) (b := a) (C := C) (owner := owner) (x := x) (bytes := bz) (maxL := nz) (ret := rz) ⟨hx, hb, hml, hown, hts⟩ (hz H.size) ⟨⟨hR.1.1, hR.1.2, hR.2.1.1, hR.2.1.2, pay_in hts hG, hcw⟩, hts _ (hG _ hcw).1, hts _ hini, hmh, hlen, hts _ hlk, hts _ hsm, by rw [← hyx]; exact va_Decl.of (hts _ hin) (hts _ (hG _ hcw).1), hts _ hsel, hts _ hin⟩ ⟨xB.blind hE, va_recv hK hP hc he, fun U hU hW => x_pre hE hX hS hPz hDz U hU hW⟩ rfl hn hl.1 hst (lv_room hw) hd hR.2.2
theorem x_callI (K : xkI Ts own index y bz nz wz n) (L : xLens wd u wdz uz put) (hz : xC l D cl tys Ev y wz rmz wdz (.ref a :: As) uz pz cz sz) (hE : xEok Ev) (hR : xRm rm rmz nz cz sz kc ks) (hn : As.length = n) (hw : (st.map fun v => v.category).sum ≤ 8) (hst : st0 = As.reverse ++ .ref a :: st) (hd : decode cc pc = .ok (.invokespecial index, 3))
    (kk : ∀ (r : Option Value) (u1 : Sz), pz r u1 → RR l D cl tys Ev own cc nL Ts rm ret wd post mc ms (kc + cz) (ks + sz) (pc + 3) lv (r.toList ++ st) (put u1)) : RR l D cl tys Ev own cc nL Ts rm ret wd post mc ms kc ks pc lv st0 u := by
  intro p e s m args below meth c A H locs ls hX hP hD hS hl
  obtain ⟨⟨hG, ⟨w', hw'⟩, hini, hdd⟩, hlk, hnm, hin⟩ := K
  obtain ⟨hx, hb, hml, hown, hts, hK, hEv, -⟩ := id hX
  refine x_lens L hX hP hD hS hl (a := (.ref a :: As).toArray) (fun hPz hDz => ?_) kk
  exact va_runI (As := As) (rest := st) (b := a) (bytes := bz) (maxL := nz) ⟨hx, hb, hml, hown, hts⟩ (hz H.size) ⟨callB_of n hts hG hw' hR.1.1 hR.1.2 (hts _ hini) (hts _ hlk) hdd hR.2.1, hnm, hts _ hin⟩ ⟨xB.blind hE, fun U hU hW => x_pre hE hX hS hPz hDz U hU hW⟩ rfl hn hl.1 hst (lv_room hw) hd hR.2.2
end RCC
end RC
abbrev wd0 : Unit → va_W := fun _ => []
def isLet (x : Int32) : Int32 := if x < 65 then 0 else if 90 < x then 0 else 1
def isDig (x : Int32) : Int32 := if x < 48 then 0 else if 57 < x then 0 else 1
end
section
def T_C : u_T := fun k => match k with
  | 0 => ("DeckFront$Card", "signs", "[C", true)
  | _ => ("DeckFront$Card", "length", "I", false)
def ty_C : Nat → FieldType := fun k => match k with
  | 0 => (.array .char)
  | _ => .int
theorem nm_C : ∀ a, a < 2 → ∀ b, b < 2 → a ≠ b → (T_C a).2.1 ≠ (T_C b).2.1 := by decide +kernel
theorem tk_C : ∀ k, k < 2 → parseFieldDescriptor (T_C k).2.2.1 = some (ty_C k) := by decide +kernel
theorem uw0_C : ∀ k, k < 2 → u_lay "DeckFront$Card" T_C k ∈ wG := fun k hk => wg_in (by revert hk; revert k; decide +kernel) (by revert hk; revert k; decide +kernel)
theorem uw_C {a : Cond} : ∀ w ∈ u_ws "DeckFront$Card" T_C 2, w ∈ a :: wG := fun w hw => by
  obtain ⟨k, hk, rfl⟩ := List.mem_map.mp hw
  exact cG (uw0_C k (List.mem_range.mp hk))
def T_K : u_T := fun k => match k with
  | 0 => ("DeckFront$Deck", "rows", "[LDeckFront$Statement;", true)
  | _ => ("DeckFront$Deck", "count", "I", false)
def ty_K : Nat → FieldType := fun k => match k with
  | 0 => (.array (.object "DeckFront$Statement"))
  | _ => .int
theorem nm_K : ∀ a, a < 2 → ∀ b, b < 2 → a ≠ b → (T_K a).2.1 ≠ (T_K b).2.1 := by decide +kernel
theorem tk_K : ∀ k, k < 2 → parseFieldDescriptor (T_K k).2.2.1 = some (ty_K k) := by decide +kernel
theorem uw0_K : ∀ k, k < 2 → u_lay "DeckFront$Deck" T_K k ∈ wG := fun k hk => wg_in (by revert hk; revert k; decide +kernel) (by revert hk; revert k; decide +kernel)
theorem uw_K {a : Cond} : ∀ w ∈ u_ws "DeckFront$Deck" T_K 2, w ∈ a :: wG := fun w hw => by
  obtain ⟨k, hk, rfl⟩ := List.mem_map.mp hw
  exact cG (uw0_K k (List.mem_range.mp hk))
def T_S : u_T := fun k => match k with
  | 0 => ("DeckFront$Tape", "text", "[C", true)
  | 1 => ("DeckFront$Tape", "opens", "[I", true)
  | 2 => ("DeckFront$Tape", "closes", "[I", true)
  | 3 => ("DeckFront$Tape", "roles", "[I", true)
  | 4 => ("DeckFront$Tape", "length", "I", false)
  | 5 => ("DeckFront$Tape", "at", "I", false)
  | 6 => ("DeckFront$Tape", "inQuote", "Z", false)
  | 7 => ("DeckFront$Statement", "number", "I", false)
  | _ => ("DeckFront$Statement", "is", "I", false)
def ty_S : Nat → FieldType := fun k => match k with
  | 0 => (.array .char)
  | 1 => (.array .int)
  | 2 => (.array .int)
  | 3 => (.array .int)
  | 4 => .int
  | 5 => .int
  | 6 => .boolean
  | 7 => .int
  | _ => .int
theorem nm_S : ∀ a, a < 9 → ∀ b, b < 9 → a ≠ b → (T_S a).2.1 ≠ (T_S b).2.1 := by decide +kernel
theorem tk_S : ∀ k, k < 9 → parseFieldDescriptor (T_S k).2.2.1 = some (ty_S k) := by decide +kernel
theorem uw0_S : ∀ k, k < 9 → u_lay "DeckFront$Statement" T_S k ∈ wG := fun k hk => wg_in (by revert hk; revert k; decide +kernel) (by revert hk; revert k; decide +kernel)
theorem uw_S {a : Cond} : ∀ w ∈ u_ws "DeckFront$Statement" T_S 9, w ∈ a :: wG := fun w hw => by
  obtain ⟨k, hk, rfl⟩ := List.mem_map.mp hw
  exact cG (uw0_S k (List.mem_range.mp hk))
def T_U : u_T := fun k => match k with
  | 0 => ("DeckFront$Structure", "open", "[I", true)
  | 1 => ("DeckFront$Structure", "depth", "I", false)
  | 2 => ("DeckFront$Structure", "found", "I", false)
  | _ => ("DeckFront$Structure", "place", "I", false)
def ty_U : Nat → FieldType := fun k => match k with
  | 0 => (.array .int)
  | 1 => .int
  | 2 => .int
  | _ => .int
theorem nm_U : ∀ a, a < 4 → ∀ b, b < 4 → a ≠ b → (T_U a).2.1 ≠ (T_U b).2.1 := by decide +kernel
theorem tk_U : ∀ k, k < 4 → parseFieldDescriptor (T_U k).2.2.1 = some (ty_U k) := by decide +kernel
theorem uw0_U : ∀ k, k < 4 → u_lay "DeckFront$Structure" T_U k ∈ wG := fun k hk => wg_in (by revert hk; revert k; decide +kernel) (by revert hk; revert k; decide +kernel)
theorem uw_U {a : Cond} : ∀ w ∈ u_ws "DeckFront$Structure" T_U 4, w ∈ a :: wG := fun w hw => by
  obtain ⟨k, hk, rfl⟩ := List.mem_map.mp hw
  exact cG (uw0_U k (List.mem_range.mp hk))
def T_D : u_T := fun k => match k with
  | 0 => ("DeckFront", "written", "LDeckFront$Card;", true)
  | 1 => ("DeckFront", "deck", "LDeckFront$Deck;", true)
  | _ => ("DeckFront", "structure", "LDeckFront$Structure;", true)
def ty_D : Nat → FieldType := fun k => match k with
  | 0 => (.object "DeckFront$Card")
  | 1 => (.object "DeckFront$Deck")
  | _ => (.object "DeckFront$Structure")
theorem nm_D : ∀ a, a < 3 → ∀ b, b < 3 → a ≠ b → (T_D a).2.1 ≠ (T_D b).2.1 := by decide +kernel
theorem tk_D : ∀ k, k < 3 → parseFieldDescriptor (T_D k).2.2.1 = some (ty_D k) := by decide +kernel
theorem uw0_D : ∀ k, k < 3 → u_lay "DeckFront" T_D k ∈ wG := fun k hk => wg_in (by revert hk; revert k; decide +kernel) (by revert hk; revert k; decide +kernel)
theorem uw_D {a : Cond} : ∀ w ∈ u_ws "DeckFront" T_D 3, w ∈ a :: wG := fun w hw => by
  obtain ⟨k, hk, rfl⟩ := List.mem_map.mp hw
  exact cG (uw0_D k (List.mem_range.mp hk))
def T_M : u_T := fun k => match k with
  | 0 => ("DeckFrontModel", "thrown", "I", false)
  | 1 => ("DeckFrontModel", "typed", "I", false)
  | 2 => ("DeckFrontModel", "card", "[C", true)
  | 3 => ("DeckFrontModel", "statements", "I", false)
  | 4 => ("DeckFrontModel", "labels", "[I", true)
  | 5 => ("DeckFrontModel", "sizes", "[I", true)
  | 6 => ("DeckFrontModel", "texts", "[C", true)
  | 7 => ("DeckFrontModel", "begin", "I", false)
  | 8 => ("DeckFrontModel", "end", "I", false)
  | 9 => ("DeckFrontModel", "p", "I", false)
  | 10 => ("DeckFrontModel", "shown", "I", false)
  | 11 => ("DeckFrontModel", "show", "[C", true)
  | 12 => ("DeckFrontModel", "names", "I", false)
  | 13 => ("DeckFrontModel", "nameOf", "[J", true)
  | 14 => ("DeckFrontModel", "useOf", "[I", true)
  | 15 => ("DeckFrontModel", "typeOf", "[I", true)
  | 16 => ("DeckFrontModel", "aims", "I", false)
  | 17 => ("DeckFrontModel", "aim", "[I", true)
  | 18 => ("DeckFrontModel", "parts", "I", false)
  | 19 => ("DeckFrontModel", "from", "[I", true)
  | 20 => ("DeckFrontModel", "to", "[I", true)
  | 21 => ("DeckFrontModel", "left", "[I", true)
  | 22 => ("DeckFrontModel", "right", "[I", true)
  | 23 => ("DeckFrontModel", "next", "[I", true)
  | 24 => ("DeckFrontModel", "sort", "[I", true)
  | 25 => ("DeckFrontModel", "values", "I", false)
  | 26 => ("DeckFrontModel", "pile", "[I", true)
  | 27 => ("DeckFrontModel", "signs", "I", false)
  | 28 => ("DeckFrontModel", "binds", "[I", true)
  | 29 => ("DeckFrontModel", "signFrom", "[I", true)
  | 30 => ("DeckFrontModel", "signTo", "[I", true)
  | 31 => ("DeckFrontModel", "before", "[Z", true)
  | 32 => ("DeckFrontModel", "writes", "[I", true)
  | 33 => ("DeckFrontModel", "open", "I", false)
  | 34 => ("DeckFrontModel", "opened", "[I", true)
  | _ => ("DeckFrontModel", "hadElse", "[Z", true)
def ty_M : Nat → FieldType := fun k => match k with
  | 0 => .int
  | 1 => .int
  | 2 => (.array .char)
  | 3 => .int
  | 4 => (.array .int)
  | 5 => (.array .int)
  | 6 => (.array .char)
  | 7 => .int
  | 8 => .int
  | 9 => .int
  | 10 => .int
  | 11 => (.array .char)
  | 12 => .int
  | 13 => (.array .long)
  | 14 => (.array .int)
  | 15 => (.array .int)
  | 16 => .int
  | 17 => (.array .int)
  | 18 => .int
  | 19 => (.array .int)
  | 20 => (.array .int)
  | 21 => (.array .int)
  | 22 => (.array .int)
  | 23 => (.array .int)
  | 24 => (.array .int)
  | 25 => .int
  | 26 => (.array .int)
  | 27 => .int
  | 28 => (.array .int)
  | 29 => (.array .int)
  | 30 => (.array .int)
  | 31 => (.array .boolean)
  | 32 => (.array .int)
  | 33 => .int
  | 34 => (.array .int)
  | _ => (.array .boolean)
theorem nm_M : ∀ a, a < 36 → ∀ b, b < 36 → a ≠ b → (T_M a).2.1 ≠ (T_M b).2.1 := by decide +kernel
theorem tk_M : ∀ k, k < 36 → parseFieldDescriptor (T_M k).2.2.1 = some (ty_M k) := by decide +kernel
theorem uw0_M : ∀ k, k < 36 → u_lay "DeckFrontModel" T_M k ∈ wG := fun k hk => wg_in (by revert hk; revert k; decide +kernel) (by revert hk; revert k; decide +kernel)
theorem uw_M {a : Cond} : ∀ w ∈ u_ws "DeckFrontModel" T_M 36, w ∈ a :: wG := fun w hw => by
  obtain ⟨k, hk, rfl⟩ := List.mem_map.mp hw
  exact cG (uw0_M k (List.mem_range.mp hk))
abbrev clX : List vw_C := [("DeckFront$Card", T_C, 2), ("DeckFront$Deck", T_K, 2), ("DeckFront$Statement", T_S, 9), ("DeckFront$Structure", T_U, 4), ("DeckFront", T_D, 3), ("DeckFrontModel", T_M, 36)]
abbrev tysX (cs : Nat → ClassId) : List (ClassId × FieldType) := [(cs 0, .int), (cs 1, .char), (cs 2, .long), (cs 3, .boolean), (cs 4, .object "DeckFront$Statement"), (cs 5, .byte)]
theorem fw_C_1 : xFw clX 0 1 .int := ⟨_, _, _, ty_C, rfl, tk_C, nm_C, rfl, by decide +kernel⟩
theorem fw_K_1 : xFw clX 1 1 .int := ⟨_, _, _, ty_K, rfl, tk_K, nm_K, rfl, by decide +kernel⟩
theorem fw_S_4 : xFw clX 2 4 .int := ⟨_, _, _, ty_S, rfl, tk_S, nm_S, rfl, by decide +kernel⟩
theorem fw_S_5 : xFw clX 2 5 .int := ⟨_, _, _, ty_S, rfl, tk_S, nm_S, rfl, by decide +kernel⟩
theorem fw_S_6 : xFw clX 2 6 .boolean := ⟨_, _, _, ty_S, rfl, tk_S, nm_S, rfl, by decide +kernel⟩
theorem fw_S_7 : xFw clX 2 7 .int := ⟨_, _, _, ty_S, rfl, tk_S, nm_S, rfl, by decide +kernel⟩
theorem fw_S_8 : xFw clX 2 8 .int := ⟨_, _, _, ty_S, rfl, tk_S, nm_S, rfl, by decide +kernel⟩
theorem fw_U_1 : xFw clX 3 1 .int := ⟨_, _, _, ty_U, rfl, tk_U, nm_U, rfl, by decide +kernel⟩
theorem fw_U_2 : xFw clX 3 2 .int := ⟨_, _, _, ty_U, rfl, tk_U, nm_U, rfl, by decide +kernel⟩
theorem fw_U_3 : xFw clX 3 3 .int := ⟨_, _, _, ty_U, rfl, tk_U, nm_U, rfl, by decide +kernel⟩
theorem fw_M_0 : xFw clX 5 0 .int := ⟨_, _, _, ty_M, rfl, tk_M, nm_M, rfl, by decide +kernel⟩
theorem fw_M_1 : xFw clX 5 1 .int := ⟨_, _, _, ty_M, rfl, tk_M, nm_M, rfl, by decide +kernel⟩
theorem fw_M_3 : xFw clX 5 3 .int := ⟨_, _, _, ty_M, rfl, tk_M, nm_M, rfl, by decide +kernel⟩
theorem fw_M_7 : xFw clX 5 7 .int := ⟨_, _, _, ty_M, rfl, tk_M, nm_M, rfl, by decide +kernel⟩
theorem fw_M_8 : xFw clX 5 8 .int := ⟨_, _, _, ty_M, rfl, tk_M, nm_M, rfl, by decide +kernel⟩
theorem fw_M_9 : xFw clX 5 9 .int := ⟨_, _, _, ty_M, rfl, tk_M, nm_M, rfl, by decide +kernel⟩
theorem fw_M_10 : xFw clX 5 10 .int := ⟨_, _, _, ty_M, rfl, tk_M, nm_M, rfl, by decide +kernel⟩
theorem fw_M_12 : xFw clX 5 12 .int := ⟨_, _, _, ty_M, rfl, tk_M, nm_M, rfl, by decide +kernel⟩
theorem fw_M_16 : xFw clX 5 16 .int := ⟨_, _, _, ty_M, rfl, tk_M, nm_M, rfl, by decide +kernel⟩
theorem fw_M_18 : xFw clX 5 18 .int := ⟨_, _, _, ty_M, rfl, tk_M, nm_M, rfl, by decide +kernel⟩
theorem fw_M_25 : xFw clX 5 25 .int := ⟨_, _, _, ty_M, rfl, tk_M, nm_M, rfl, by decide +kernel⟩
theorem fw_M_27 : xFw clX 5 27 .int := ⟨_, _, _, ty_M, rfl, tk_M, nm_M, rfl, by decide +kernel⟩
theorem fw_M_33 : xFw clX 5 33 .int := ⟨_, _, _, ty_M, rfl, tk_M, nm_M, rfl, by decide +kernel⟩
theorem f_C_9 {a : Cond} : xF clX (a :: wG) "DeckFront$Card" 9 0 0 := ⟨_, _, _, "DeckFront$Card", uw_C, rfl, by decide, cG tw_33, Or.inl rfl⟩
theorem f_T_39 {a : Cond} : xF clX (a :: wG) "DeckFront$Tape" 39 0 0 := ⟨_, _, _, "DeckFront$Card", uw_C, rfl, by decide, cG tw_34, Or.inl rfl⟩
theorem f_C_19 {a : Cond} : xF clX (a :: wG) "DeckFront$Card" 19 0 1 := ⟨_, _, _, "DeckFront$Card", uw_C, rfl, by decide, cG tw_35, Or.inl rfl⟩
theorem f_T_36 {a : Cond} : xF clX (a :: wG) "DeckFront$Tape" 36 0 1 := ⟨_, _, _, "DeckFront$Card", uw_C, rfl, by decide, cG tw_36, Or.inl rfl⟩
theorem f_D_38 {a : Cond} : xF clX (a :: wG) "DeckFront" 38 0 1 := ⟨_, _, _, "DeckFront$Card", uw_C, rfl, by decide, cG tw_37, Or.inl rfl⟩
theorem f_U_43 {a : Cond} : xF clX (a :: wG) "DeckFront$Structure" 43 2 7 := ⟨_, _, _, "DeckFront$Statement", uw_S, rfl, by decide, cG tw_60, Or.inl rfl⟩
theorem f_K_45 {a : Cond} : xF clX (a :: wG) "DeckFront$Deck" 45 2 7 := ⟨_, _, _, "DeckFront$Statement", uw_S, rfl, by decide, cG tw_61, Or.inl rfl⟩
theorem f_D_66 {a : Cond} : xF clX (a :: wG) "DeckFront" 66 2 7 := ⟨_, _, _, "DeckFront$Statement", uw_S, rfl, by decide, cG tw_62, Or.inl rfl⟩
theorem f_S_22 {a : Cond} : xF clX (a :: wG) "DeckFront$Statement" 22 2 8 := ⟨_, _, _, "DeckFront$Statement", uw_S, rfl, by decide, cG tw_63, Or.inl rfl⟩
theorem f_U_38 {a : Cond} : xF clX (a :: wG) "DeckFront$Structure" 38 2 8 := ⟨_, _, _, "DeckFront$Statement", uw_S, rfl, by decide, cG tw_64, Or.inl rfl⟩
theorem f_K_63 {a : Cond} : xF clX (a :: wG) "DeckFront$Deck" 63 2 8 := ⟨_, _, _, "DeckFront$Statement", uw_S, rfl, by decide, cG tw_65, Or.inl rfl⟩
theorem f_D_69 {a : Cond} : xF clX (a :: wG) "DeckFront" 69 2 8 := ⟨_, _, _, "DeckFront$Statement", uw_S, rfl, by decide, cG tw_66, Or.inl rfl⟩
theorem f_T_9 {a : Cond} : xF clX (a :: wG) "DeckFront$Tape" 9 2 0 := ⟨_, _, _, "DeckFront$Tape", uw_S, rfl, by decide, cG tw_67, Or.inl rfl⟩
theorem f_S_190 {a : Cond} : xF clX (a :: wG) "DeckFront$Statement" 190 2 0 := ⟨_, _, _, "DeckFront$Statement", uw_S, rfl, by decide, cG tw_68, Or.inr (cG tw_69)⟩
theorem f_T_15 {a : Cond} : xF clX (a :: wG) "DeckFront$Tape" 15 2 1 := ⟨_, _, _, "DeckFront$Tape", uw_S, rfl, by decide, cG tw_70, Or.inl rfl⟩
theorem f_S_130 {a : Cond} : xF clX (a :: wG) "DeckFront$Statement" 130 2 1 := ⟨_, _, _, "DeckFront$Statement", uw_S, rfl, by decide, cG tw_71, Or.inr (cG tw_72)⟩
theorem f_T_19 {a : Cond} : xF clX (a :: wG) "DeckFront$Tape" 19 2 2 := ⟨_, _, _, "DeckFront$Tape", uw_S, rfl, by decide, cG tw_73, Or.inl rfl⟩
theorem f_T_22 {a : Cond} : xF clX (a :: wG) "DeckFront$Tape" 22 2 3 := ⟨_, _, _, "DeckFront$Tape", uw_S, rfl, by decide, cG tw_74, Or.inl rfl⟩
theorem f_U_89 {a : Cond} : xF clX (a :: wG) "DeckFront$Structure" 89 2 3 := ⟨_, _, _, "DeckFront$Statement", uw_S, rfl, by decide, cG tw_75, Or.inr (cG tw_76)⟩
theorem f_S_185 {a : Cond} : xF clX (a :: wG) "DeckFront$Statement" 185 2 3 := ⟨_, _, _, "DeckFront$Statement", uw_S, rfl, by decide, cG tw_77, Or.inr (cG tw_76)⟩
theorem f_T_25 {a : Cond} : xF clX (a :: wG) "DeckFront$Tape" 25 2 4 := ⟨_, _, _, "DeckFront$Tape", uw_S, rfl, by decide, cG tw_78, Or.inl rfl⟩
theorem f_S_9 {a : Cond} : xF clX (a :: wG) "DeckFront$Statement" 9 2 4 := ⟨_, _, _, "DeckFront$Statement", uw_S, rfl, by decide, cG tw_79, Or.inr (cG tw_80)⟩
theorem f_U_86 {a : Cond} : xF clX (a :: wG) "DeckFront$Structure" 86 2 4 := ⟨_, _, _, "DeckFront$Statement", uw_S, rfl, by decide, cG tw_81, Or.inr (cG tw_80)⟩
theorem f_S_15 {a : Cond} : xF clX (a :: wG) "DeckFront$Statement" 15 2 5 := ⟨_, _, _, "DeckFront$Statement", uw_S, rfl, by decide, cG tw_82, Or.inr (cG tw_83)⟩
theorem f_T_29 {a : Cond} : xF clX (a :: wG) "DeckFront$Tape" 29 2 5 := ⟨_, _, _, "DeckFront$Tape", uw_S, rfl, by decide, cG tw_84, Or.inl rfl⟩
theorem f_T_32 {a : Cond} : xF clX (a :: wG) "DeckFront$Tape" 32 2 6 := ⟨_, _, _, "DeckFront$Tape", uw_S, rfl, by decide, cG tw_85, Or.inl rfl⟩
theorem f_K_11 {a : Cond} : xF clX (a :: wG) "DeckFront$Deck" 11 1 0 := ⟨_, _, _, "DeckFront$Deck", uw_K, rfl, by decide, cG tw_106, Or.inl rfl⟩
theorem f_U_34 {a : Cond} : xF clX (a :: wG) "DeckFront$Structure" 34 1 0 := ⟨_, _, _, "DeckFront$Deck", uw_K, rfl, by decide, cG tw_107, Or.inl rfl⟩
theorem f_K_18 {a : Cond} : xF clX (a :: wG) "DeckFront$Deck" 18 1 1 := ⟨_, _, _, "DeckFront$Deck", uw_K, rfl, by decide, cG tw_108, Or.inl rfl⟩
theorem f_U_25 {a : Cond} : xF clX (a :: wG) "DeckFront$Structure" 25 1 1 := ⟨_, _, _, "DeckFront$Deck", uw_K, rfl, by decide, cG tw_109, Or.inl rfl⟩
theorem f_D_63 {a : Cond} : xF clX (a :: wG) "DeckFront" 63 1 1 := ⟨_, _, _, "DeckFront$Deck", uw_K, rfl, by decide, cG tw_110, Or.inl rfl⟩
theorem f_U_9 {a : Cond} : xF clX (a :: wG) "DeckFront$Structure" 9 3 0 := ⟨_, _, _, "DeckFront$Structure", uw_U, rfl, by decide, cG tw_122, Or.inl rfl⟩
theorem f_U_15 {a : Cond} : xF clX (a :: wG) "DeckFront$Structure" 15 3 1 := ⟨_, _, _, "DeckFront$Structure", uw_U, rfl, by decide, cG tw_123, Or.inl rfl⟩
theorem f_U_19 {a : Cond} : xF clX (a :: wG) "DeckFront$Structure" 19 3 2 := ⟨_, _, _, "DeckFront$Structure", uw_U, rfl, by decide, cG tw_124, Or.inl rfl⟩
theorem f_D_91 {a : Cond} : xF clX (a :: wG) "DeckFront" 91 3 2 := ⟨_, _, _, "DeckFront$Structure", uw_U, rfl, by decide, cG tw_125, Or.inl rfl⟩
theorem f_U_22 {a : Cond} : xF clX (a :: wG) "DeckFront$Structure" 22 3 3 := ⟨_, _, _, "DeckFront$Structure", uw_U, rfl, by decide, cG tw_126, Or.inl rfl⟩
theorem f_D_94 {a : Cond} : xF clX (a :: wG) "DeckFront" 94 3 3 := ⟨_, _, _, "DeckFront$Structure", uw_U, rfl, by decide, cG tw_127, Or.inl rfl⟩
theorem f_D_10 {a : Cond} : xF clX (a :: wG) "DeckFront" 10 4 0 := ⟨_, _, _, "DeckFront", uw_D, rfl, by decide, cG tw_137, Or.inl rfl⟩
theorem f_D_19 {a : Cond} : xF clX (a :: wG) "DeckFront" 19 4 1 := ⟨_, _, _, "DeckFront", uw_D, rfl, by decide, cG tw_138, Or.inl rfl⟩
theorem f_D_26 {a : Cond} : xF clX (a :: wG) "DeckFront" 26 4 2 := ⟨_, _, _, "DeckFront", uw_D, rfl, by decide, cG tw_139, Or.inl rfl⟩
theorem f_M_82 {a : Cond} : xF clX (a :: wG) "DeckFrontModel" 82 5 0 := ⟨_, _, _, "DeckFrontModel", uw_M, rfl, by decide, cG tw_749, Or.inl rfl⟩
theorem f_M_96 {a : Cond} : xF clX (a :: wG) "DeckFrontModel" 96 5 1 := ⟨_, _, _, "DeckFrontModel", uw_M, rfl, by decide, cG tw_750, Or.inl rfl⟩
theorem f_M_7 {a : Cond} : xF clX (a :: wG) "DeckFrontModel" 7 5 2 := ⟨_, _, _, "DeckFrontModel", uw_M, rfl, by decide, cG tw_751, Or.inl rfl⟩
theorem f_M_99 {a : Cond} : xF clX (a :: wG) "DeckFrontModel" 99 5 3 := ⟨_, _, _, "DeckFrontModel", uw_M, rfl, by decide, cG tw_752, Or.inl rfl⟩
theorem f_M_13 {a : Cond} : xF clX (a :: wG) "DeckFrontModel" 13 5 4 := ⟨_, _, _, "DeckFrontModel", uw_M, rfl, by decide, cG tw_753, Or.inl rfl⟩
theorem f_M_17 {a : Cond} : xF clX (a :: wG) "DeckFrontModel" 17 5 5 := ⟨_, _, _, "DeckFrontModel", uw_M, rfl, by decide, cG tw_754, Or.inl rfl⟩
theorem f_M_20 {a : Cond} : xF clX (a :: wG) "DeckFrontModel" 20 5 6 := ⟨_, _, _, "DeckFrontModel", uw_M, rfl, by decide, cG tw_755, Or.inl rfl⟩
theorem f_M_319 {a : Cond} : xF clX (a :: wG) "DeckFrontModel" 319 5 7 := ⟨_, _, _, "DeckFrontModel", uw_M, rfl, by decide, cG tw_756, Or.inl rfl⟩
theorem f_M_116 {a : Cond} : xF clX (a :: wG) "DeckFrontModel" 116 5 8 := ⟨_, _, _, "DeckFrontModel", uw_M, rfl, by decide, cG tw_757, Or.inl rfl⟩
theorem f_M_126 {a : Cond} : xF clX (a :: wG) "DeckFrontModel" 126 5 9 := ⟨_, _, _, "DeckFrontModel", uw_M, rfl, by decide, cG tw_758, Or.inl rfl⟩
theorem f_M_119 {a : Cond} : xF clX (a :: wG) "DeckFrontModel" 119 5 10 := ⟨_, _, _, "DeckFrontModel", uw_M, rfl, by decide, cG tw_759, Or.inl rfl⟩
theorem f_M_23 {a : Cond} : xF clX (a :: wG) "DeckFrontModel" 23 5 11 := ⟨_, _, _, "DeckFrontModel", uw_M, rfl, by decide, cG tw_760, Or.inl rfl⟩
theorem f_M_138 {a : Cond} : xF clX (a :: wG) "DeckFrontModel" 138 5 12 := ⟨_, _, _, "DeckFrontModel", uw_M, rfl, by decide, cG tw_761, Or.inl rfl⟩
theorem f_M_26 {a : Cond} : xF clX (a :: wG) "DeckFrontModel" 26 5 13 := ⟨_, _, _, "DeckFrontModel", uw_M, rfl, by decide, cG tw_762, Or.inl rfl⟩
theorem f_M_30 {a : Cond} : xF clX (a :: wG) "DeckFrontModel" 30 5 14 := ⟨_, _, _, "DeckFrontModel", uw_M, rfl, by decide, cG tw_763, Or.inl rfl⟩
theorem f_M_33 {a : Cond} : xF clX (a :: wG) "DeckFrontModel" 33 5 15 := ⟨_, _, _, "DeckFrontModel", uw_M, rfl, by decide, cG tw_764, Or.inl rfl⟩
theorem f_M_244 {a : Cond} : xF clX (a :: wG) "DeckFrontModel" 244 5 16 := ⟨_, _, _, "DeckFrontModel", uw_M, rfl, by decide, cG tw_765, Or.inl rfl⟩
theorem f_M_36 {a : Cond} : xF clX (a :: wG) "DeckFrontModel" 36 5 17 := ⟨_, _, _, "DeckFrontModel", uw_M, rfl, by decide, cG tw_766, Or.inl rfl⟩
theorem f_M_173 {a : Cond} : xF clX (a :: wG) "DeckFrontModel" 173 5 18 := ⟨_, _, _, "DeckFrontModel", uw_M, rfl, by decide, cG tw_767, Or.inl rfl⟩
theorem f_M_39 {a : Cond} : xF clX (a :: wG) "DeckFrontModel" 39 5 19 := ⟨_, _, _, "DeckFrontModel", uw_M, rfl, by decide, cG tw_768, Or.inl rfl⟩
theorem f_M_42 {a : Cond} : xF clX (a :: wG) "DeckFrontModel" 42 5 20 := ⟨_, _, _, "DeckFrontModel", uw_M, rfl, by decide, cG tw_769, Or.inl rfl⟩
theorem f_M_45 {a : Cond} : xF clX (a :: wG) "DeckFrontModel" 45 5 21 := ⟨_, _, _, "DeckFrontModel", uw_M, rfl, by decide, cG tw_770, Or.inl rfl⟩
theorem f_M_48 {a : Cond} : xF clX (a :: wG) "DeckFrontModel" 48 5 22 := ⟨_, _, _, "DeckFrontModel", uw_M, rfl, by decide, cG tw_771, Or.inl rfl⟩
theorem f_M_51 {a : Cond} : xF clX (a :: wG) "DeckFrontModel" 51 5 23 := ⟨_, _, _, "DeckFrontModel", uw_M, rfl, by decide, cG tw_772, Or.inl rfl⟩
theorem f_M_54 {a : Cond} : xF clX (a :: wG) "DeckFrontModel" 54 5 24 := ⟨_, _, _, "DeckFrontModel", uw_M, rfl, by decide, cG tw_773, Or.inl rfl⟩
theorem f_M_176 {a : Cond} : xF clX (a :: wG) "DeckFrontModel" 176 5 25 := ⟨_, _, _, "DeckFrontModel", uw_M, rfl, by decide, cG tw_774, Or.inl rfl⟩
theorem f_M_57 {a : Cond} : xF clX (a :: wG) "DeckFrontModel" 57 5 26 := ⟨_, _, _, "DeckFrontModel", uw_M, rfl, by decide, cG tw_775, Or.inl rfl⟩
theorem f_M_179 {a : Cond} : xF clX (a :: wG) "DeckFrontModel" 179 5 27 := ⟨_, _, _, "DeckFrontModel", uw_M, rfl, by decide, cG tw_776, Or.inl rfl⟩
theorem f_M_60 {a : Cond} : xF clX (a :: wG) "DeckFrontModel" 60 5 28 := ⟨_, _, _, "DeckFrontModel", uw_M, rfl, by decide, cG tw_777, Or.inl rfl⟩
theorem f_M_63 {a : Cond} : xF clX (a :: wG) "DeckFrontModel" 63 5 29 := ⟨_, _, _, "DeckFrontModel", uw_M, rfl, by decide, cG tw_778, Or.inl rfl⟩
theorem f_M_66 {a : Cond} : xF clX (a :: wG) "DeckFrontModel" 66 5 30 := ⟨_, _, _, "DeckFrontModel", uw_M, rfl, by decide, cG tw_779, Or.inl rfl⟩
theorem f_M_69 {a : Cond} : xF clX (a :: wG) "DeckFrontModel" 69 5 31 := ⟨_, _, _, "DeckFrontModel", uw_M, rfl, by decide, cG tw_780, Or.inl rfl⟩
theorem f_M_73 {a : Cond} : xF clX (a :: wG) "DeckFrontModel" 73 5 32 := ⟨_, _, _, "DeckFrontModel", uw_M, rfl, by decide, cG tw_781, Or.inl rfl⟩
theorem f_M_336 {a : Cond} : xF clX (a :: wG) "DeckFrontModel" 336 5 33 := ⟨_, _, _, "DeckFrontModel", uw_M, rfl, by decide, cG tw_782, Or.inl rfl⟩
theorem f_M_76 {a : Cond} : xF clX (a :: wG) "DeckFrontModel" 76 5 34 := ⟨_, _, _, "DeckFrontModel", uw_M, rfl, by decide, cG tw_783, Or.inl rfl⟩
theorem f_M_79 {a : Cond} : xF clX (a :: wG) "DeckFrontModel" 79 5 35 := ⟨_, _, _, "DeckFrontModel", uw_M, rfl, by decide, cG tw_784, Or.inl rfl⟩
/-! the reference's state: whole numbers by their field, arrays by their field and place, the names -/
abbrev MS : Type := (Nat → Int32) × (Nat → Nat → Int32) × (Nat → Int64)
def gI (u : MS) (k : Nat) : Int32 := u.1 k
def gA (u : MS) (k : Nat) : Nat → Int32 := u.2.1 k
def gL (u : MS) : Nat → Int64 := u.2.2
def sI (u : MS) (k : Nat) (v : Int32) : MS := (va_up u.1 k v, u.2)
def sA (u : MS) (k i : Nat) (v : Int32) : MS := (u.1, va_up u.2.1 k (upd (u.2.1 k) i v), u.2.2)
def sL (u : MS) (i : Nat) (v : Int64) : MS := (u.1, u.2.1, vp_updL u.2.2 i v)
def fsM (a : Nat → Nat) (u : MS) : List Value := [.int (gI u 0), .int (gI u 1), .ref (a 2), .int (gI u 3), .ref (a 4), .ref (a 5), .ref (a 6), .int (gI u 7), .int (gI u 8), .int (gI u 9), .int (gI u 10), .ref (a 11), .int (gI u 12), .ref (a 13), .ref (a 14), .ref (a 15), .int (gI u 16), .ref (a 17), .int (gI u 18), .ref (a 19), .ref (a 20), .ref (a 21), .ref (a 22), .ref (a 23), .ref (a 24), .int (gI u 25), .ref (a 26), .int (gI u 27), .ref (a 28), .ref (a 29), .ref (a 30), .ref (a 31), .ref (a 32), .int (gI u 33), .ref (a 34), .ref (a 35)]
def wdM (o : Nat) (a : Nat → Nat) (cs : Nat → ClassId) (u : MS) : va_W := (o, .inr (5, fsM a u)) :: [(a 2, .inl (cs 1, 72, .inl (gA u 2))), (a 4, .inl (cs 0, 24, .inl (gA u 4))), (a 5, .inl (cs 0, 24, .inl (gA u 5))), (a 6, .inl (cs 1, 1920, .inl (gA u 6))), (a 11, .inl (cs 1, 600, .inl (gA u 11))), (a 13, .inl (cs 2, 90, .inr (.inl (gL u)))), (a 14, .inl (cs 0, 90, .inl (gA u 14))), (a 15, .inl (cs 0, 90, .inl (gA u 15))), (a 17, .inl (cs 0, 90, .inl (gA u 17))), (a 19, .inl (cs 0, 100, .inl (gA u 19))), (a 20, .inl (cs 0, 100, .inl (gA u 20))), (a 21, .inl (cs 0, 100, .inl (gA u 21))), (a 22, .inl (cs 0, 100, .inl (gA u 22))), (a 23, .inl (cs 0, 100, .inl (gA u 23))), (a 24, .inl (cs 0, 100, .inl (gA u 24))), (a 26, .inl (cs 0, 100, .inl (gA u 26))), (a 28, .inl (cs 0, 100, .inl (gA u 28))), (a 29, .inl (cs 0, 100, .inl (gA u 29))), (a 30, .inl (cs 0, 100, .inl (gA u 30))), (a 31, .inl (cs 3, 100, .inl (gA u 31))), (a 32, .inl (cs 0, 400, .inl (gA u 32))), (a 34, .inl (cs 0, 24, .inl (gA u 34))), (a 35, .inl (cs 3, 24, .inl (gA u 35)))]
section
variable (o : Nat) (a : Nat → Nat) (cs : Nat → ClassId) (u : MS)
theorem eM_o : (wdM o a cs u)[0]? = some (o, .inr (5, fsM a u)) := rfl
theorem sM_0 (v : Int32) : (wdM o a cs u).set 0 (o, .inr (5, (fsM a u).set 0 (.int v))) = wdM o a cs (sI u 0 v) := rfl
theorem sM_1 (v : Int32) : (wdM o a cs u).set 0 (o, .inr (5, (fsM a u).set 1 (.int v))) = wdM o a cs (sI u 1 v) := rfl
theorem eM_2 : (wdM o a cs u)[1]? = some (a 2, .inl (cs 1, 72, .inl (gA u 2))) := rfl
theorem sM_2 (i : Nat) (v : Int32) : (wdM o a cs u).set 1 (a 2, .inl (cs 1, 72, .inl (upd (gA u 2) i v))) = wdM o a cs (sA u 2 i v) := rfl
theorem sM_3 (v : Int32) : (wdM o a cs u).set 0 (o, .inr (5, (fsM a u).set 3 (.int v))) = wdM o a cs (sI u 3 v) := rfl
theorem eM_4 : (wdM o a cs u)[2]? = some (a 4, .inl (cs 0, 24, .inl (gA u 4))) := rfl
theorem sM_4 (i : Nat) (v : Int32) : (wdM o a cs u).set 2 (a 4, .inl (cs 0, 24, .inl (upd (gA u 4) i v))) = wdM o a cs (sA u 4 i v) := rfl
theorem eM_5 : (wdM o a cs u)[3]? = some (a 5, .inl (cs 0, 24, .inl (gA u 5))) := rfl
theorem sM_5 (i : Nat) (v : Int32) : (wdM o a cs u).set 3 (a 5, .inl (cs 0, 24, .inl (upd (gA u 5) i v))) = wdM o a cs (sA u 5 i v) := rfl
theorem eM_6 : (wdM o a cs u)[4]? = some (a 6, .inl (cs 1, 1920, .inl (gA u 6))) := rfl
theorem sM_6 (i : Nat) (v : Int32) : (wdM o a cs u).set 4 (a 6, .inl (cs 1, 1920, .inl (upd (gA u 6) i v))) = wdM o a cs (sA u 6 i v) := rfl
theorem sM_7 (v : Int32) : (wdM o a cs u).set 0 (o, .inr (5, (fsM a u).set 7 (.int v))) = wdM o a cs (sI u 7 v) := rfl
theorem sM_8 (v : Int32) : (wdM o a cs u).set 0 (o, .inr (5, (fsM a u).set 8 (.int v))) = wdM o a cs (sI u 8 v) := rfl
theorem sM_9 (v : Int32) : (wdM o a cs u).set 0 (o, .inr (5, (fsM a u).set 9 (.int v))) = wdM o a cs (sI u 9 v) := rfl
theorem sM_10 (v : Int32) : (wdM o a cs u).set 0 (o, .inr (5, (fsM a u).set 10 (.int v))) = wdM o a cs (sI u 10 v) := rfl
theorem eM_11 : (wdM o a cs u)[5]? = some (a 11, .inl (cs 1, 600, .inl (gA u 11))) := rfl
theorem sM_11 (i : Nat) (v : Int32) : (wdM o a cs u).set 5 (a 11, .inl (cs 1, 600, .inl (upd (gA u 11) i v))) = wdM o a cs (sA u 11 i v) := rfl
theorem sM_12 (v : Int32) : (wdM o a cs u).set 0 (o, .inr (5, (fsM a u).set 12 (.int v))) = wdM o a cs (sI u 12 v) := rfl
theorem eM_13 : (wdM o a cs u)[6]? = some (a 13, .inl (cs 2, 90, .inr (.inl (gL u)))) := rfl
theorem sM_13 (i : Nat) (v : Int64) : (wdM o a cs u).set 6 (a 13, .inl (cs 2, 90, .inr (.inl (vp_updL (gL u) i v)))) = wdM o a cs (sL u i v) := rfl
theorem eM_14 : (wdM o a cs u)[7]? = some (a 14, .inl (cs 0, 90, .inl (gA u 14))) := rfl
theorem sM_14 (i : Nat) (v : Int32) : (wdM o a cs u).set 7 (a 14, .inl (cs 0, 90, .inl (upd (gA u 14) i v))) = wdM o a cs (sA u 14 i v) := rfl
theorem eM_15 : (wdM o a cs u)[8]? = some (a 15, .inl (cs 0, 90, .inl (gA u 15))) := rfl
theorem sM_15 (i : Nat) (v : Int32) : (wdM o a cs u).set 8 (a 15, .inl (cs 0, 90, .inl (upd (gA u 15) i v))) = wdM o a cs (sA u 15 i v) := rfl
theorem sM_16 (v : Int32) : (wdM o a cs u).set 0 (o, .inr (5, (fsM a u).set 16 (.int v))) = wdM o a cs (sI u 16 v) := rfl
theorem eM_17 : (wdM o a cs u)[9]? = some (a 17, .inl (cs 0, 90, .inl (gA u 17))) := rfl
theorem sM_17 (i : Nat) (v : Int32) : (wdM o a cs u).set 9 (a 17, .inl (cs 0, 90, .inl (upd (gA u 17) i v))) = wdM o a cs (sA u 17 i v) := rfl
theorem sM_18 (v : Int32) : (wdM o a cs u).set 0 (o, .inr (5, (fsM a u).set 18 (.int v))) = wdM o a cs (sI u 18 v) := rfl
theorem eM_19 : (wdM o a cs u)[10]? = some (a 19, .inl (cs 0, 100, .inl (gA u 19))) := rfl
theorem sM_19 (i : Nat) (v : Int32) : (wdM o a cs u).set 10 (a 19, .inl (cs 0, 100, .inl (upd (gA u 19) i v))) = wdM o a cs (sA u 19 i v) := rfl
theorem eM_20 : (wdM o a cs u)[11]? = some (a 20, .inl (cs 0, 100, .inl (gA u 20))) := rfl
theorem sM_20 (i : Nat) (v : Int32) : (wdM o a cs u).set 11 (a 20, .inl (cs 0, 100, .inl (upd (gA u 20) i v))) = wdM o a cs (sA u 20 i v) := rfl
theorem eM_21 : (wdM o a cs u)[12]? = some (a 21, .inl (cs 0, 100, .inl (gA u 21))) := rfl
theorem sM_21 (i : Nat) (v : Int32) : (wdM o a cs u).set 12 (a 21, .inl (cs 0, 100, .inl (upd (gA u 21) i v))) = wdM o a cs (sA u 21 i v) := rfl
theorem eM_22 : (wdM o a cs u)[13]? = some (a 22, .inl (cs 0, 100, .inl (gA u 22))) := rfl
theorem sM_22 (i : Nat) (v : Int32) : (wdM o a cs u).set 13 (a 22, .inl (cs 0, 100, .inl (upd (gA u 22) i v))) = wdM o a cs (sA u 22 i v) := rfl
theorem eM_23 : (wdM o a cs u)[14]? = some (a 23, .inl (cs 0, 100, .inl (gA u 23))) := rfl
theorem sM_23 (i : Nat) (v : Int32) : (wdM o a cs u).set 14 (a 23, .inl (cs 0, 100, .inl (upd (gA u 23) i v))) = wdM o a cs (sA u 23 i v) := rfl
theorem eM_24 : (wdM o a cs u)[15]? = some (a 24, .inl (cs 0, 100, .inl (gA u 24))) := rfl
theorem sM_24 (i : Nat) (v : Int32) : (wdM o a cs u).set 15 (a 24, .inl (cs 0, 100, .inl (upd (gA u 24) i v))) = wdM o a cs (sA u 24 i v) := rfl
theorem sM_25 (v : Int32) : (wdM o a cs u).set 0 (o, .inr (5, (fsM a u).set 25 (.int v))) = wdM o a cs (sI u 25 v) := rfl
theorem eM_26 : (wdM o a cs u)[16]? = some (a 26, .inl (cs 0, 100, .inl (gA u 26))) := rfl
theorem sM_26 (i : Nat) (v : Int32) : (wdM o a cs u).set 16 (a 26, .inl (cs 0, 100, .inl (upd (gA u 26) i v))) = wdM o a cs (sA u 26 i v) := rfl
theorem sM_27 (v : Int32) : (wdM o a cs u).set 0 (o, .inr (5, (fsM a u).set 27 (.int v))) = wdM o a cs (sI u 27 v) := rfl
theorem eM_28 : (wdM o a cs u)[17]? = some (a 28, .inl (cs 0, 100, .inl (gA u 28))) := rfl
theorem sM_28 (i : Nat) (v : Int32) : (wdM o a cs u).set 17 (a 28, .inl (cs 0, 100, .inl (upd (gA u 28) i v))) = wdM o a cs (sA u 28 i v) := rfl
theorem eM_29 : (wdM o a cs u)[18]? = some (a 29, .inl (cs 0, 100, .inl (gA u 29))) := rfl
theorem sM_29 (i : Nat) (v : Int32) : (wdM o a cs u).set 18 (a 29, .inl (cs 0, 100, .inl (upd (gA u 29) i v))) = wdM o a cs (sA u 29 i v) := rfl
theorem eM_30 : (wdM o a cs u)[19]? = some (a 30, .inl (cs 0, 100, .inl (gA u 30))) := rfl
theorem sM_30 (i : Nat) (v : Int32) : (wdM o a cs u).set 19 (a 30, .inl (cs 0, 100, .inl (upd (gA u 30) i v))) = wdM o a cs (sA u 30 i v) := rfl
theorem eM_31 : (wdM o a cs u)[20]? = some (a 31, .inl (cs 3, 100, .inl (gA u 31))) := rfl
theorem sM_31 (i : Nat) (v : Int32) : (wdM o a cs u).set 20 (a 31, .inl (cs 3, 100, .inl (upd (gA u 31) i v))) = wdM o a cs (sA u 31 i v) := rfl
theorem eM_32 : (wdM o a cs u)[21]? = some (a 32, .inl (cs 0, 400, .inl (gA u 32))) := rfl
theorem sM_32 (i : Nat) (v : Int32) : (wdM o a cs u).set 21 (a 32, .inl (cs 0, 400, .inl (upd (gA u 32) i v))) = wdM o a cs (sA u 32 i v) := rfl
theorem sM_33 (v : Int32) : (wdM o a cs u).set 0 (o, .inr (5, (fsM a u).set 33 (.int v))) = wdM o a cs (sI u 33 v) := rfl
theorem eM_34 : (wdM o a cs u)[22]? = some (a 34, .inl (cs 0, 24, .inl (gA u 34))) := rfl
theorem sM_34 (i : Nat) (v : Int32) : (wdM o a cs u).set 22 (a 34, .inl (cs 0, 24, .inl (upd (gA u 34) i v))) = wdM o a cs (sA u 34 i v) := rfl
theorem eM_35 : (wdM o a cs u)[23]? = some (a 35, .inl (cs 3, 24, .inl (gA u 35))) := rfl
theorem sM_35 (i : Nat) (v : Int32) : (wdM o a cs u).set 23 (a 35, .inl (cs 3, 24, .inl (upd (gA u 35) i v))) = wdM o a cs (sA u 35 i v) := rfl
end
end
section
abbrev sK : Type := String × Nat × String × List Int32
/-- the class's String constants: whose, which entry, text, bytes -/
def strJ : List sK := [
  ("DeckFront$Card", 29, " =+-*/(),.'", [32, 61, 43, 45, 42, 47, 40, 41, 44, 46, 39]),
  ("DeckFront", 44, "the label field", [116, 104, 101, 32, 108, 97, 98, 101, 108, 32, 102, 105, 101, 108, 100]),
  ("DeckFront", 51, "no place in the deck", [110, 111, 32, 112, 108, 97, 99, 101, 32, 105, 110, 32, 116, 104, 101, 32, 100, 101, 99, 107]),
  ("DeckFront$Statement", 48, "DO", [68, 79]),
  ("DeckFront$Statement", 60, "=", [61]),
  ("DeckFront$Tape", 70, ".", [46]),
  ("DeckFront$Tape", 79, ".OR.", [46, 79, 82, 46]),
  ("DeckFront$Tape", 81, ".AND.", [46, 65, 78, 68, 46]),
  ("DeckFront$Tape", 83, ".NOT.", [46, 78, 79, 84, 46]),
  ("DeckFront$Tape", 85, ".LT.", [46, 76, 84, 46]),
  ("DeckFront$Tape", 87, ".LE.", [46, 76, 69, 46]),
  ("DeckFront$Tape", 89, ".EQ.", [46, 69, 81, 46]),
  ("DeckFront$Tape", 91, ".NE.", [46, 78, 69, 46]),
  ("DeckFront$Tape", 93, ".GT.", [46, 71, 84, 46]),
  ("DeckFront$Tape", 95, ".GE.", [46, 71, 69, 46]),
  ("DeckFront$Tape", 97, ".TRUE.", [46, 84, 82, 85, 69, 46]),
  ("DeckFront$Tape", 99, ".FALSE.", [46, 70, 65, 76, 83, 69, 46]),
  ("DeckFront$Tape", 75, "E+", [69, 43]),
  ("DeckFront$Tape", 77, "E-", [69, 45]),
  ("DeckFront$Statement", 175, ".TRUE.", [46, 84, 82, 85, 69, 46]),
  ("DeckFront$Statement", 177, ".FALSE.", [46, 70, 65, 76, 83, 69, 46]),
  ("DeckFront$Statement", 188, "()", [40, 41]),
  ("DeckFront$Statement", 116, "(", [40]),
  ("DeckFront$Statement", 62, ",", [44]),
  ("DeckFront$Statement", 35, ")", [41]),
  ("DeckFront$Statement", 167, "**", [42, 42]),
  ("DeckFront$Statement", 134, ".NOT.", [46, 78, 79, 84, 46]),
  ("DeckFront$Statement", 140, ".OR.", [46, 79, 82, 46]),
  ("DeckFront$Statement", 142, ".AND.", [46, 65, 78, 68, 46]),
  ("DeckFront$Statement", 144, ".LT.", [46, 76, 84, 46]),
  ("DeckFront$Statement", 146, ".LE.", [46, 76, 69, 46]),
  ("DeckFront$Statement", 148, ".EQ.", [46, 69, 81, 46]),
  ("DeckFront$Statement", 150, ".NE.", [46, 78, 69, 46]),
  ("DeckFront$Statement", 152, ".GT.", [46, 71, 84, 46]),
  ("DeckFront$Statement", 154, ".GE.", [46, 71, 69, 46]),
  ("DeckFront$Statement", 156, "+", [43]),
  ("DeckFront$Statement", 158, "-", [45]),
  ("DeckFront$Statement", 160, "*", [42]),
  ("DeckFront$Statement", 162, "/", [47]),
  ("DeckFront$Statement", 25, "IF(", [73, 70, 40]),
  ("DeckFront$Statement", 68, ")THEN", [41, 84, 72, 69, 78]),
  ("DeckFront$Statement", 70, "ELSEIF(", [69, 76, 83, 69, 73, 70, 40]),
  ("DeckFront$Statement", 72, "ELSE", [69, 76, 83, 69]),
  ("DeckFront$Statement", 74, "ENDIF", [69, 78, 68, 73, 70]),
  ("DeckFront$Statement", 76, "CONTINUE", [67, 79, 78, 84, 73, 78, 85, 69]),
  ("DeckFront$Statement", 78, "GOTO", [71, 79, 84, 79]),
  ("DeckFront$Statement", 80, "CALL", [67, 65, 76, 76]),
  ("DeckFront$Statement", 89, "RETURN", [82, 69, 84, 85, 82, 78]),
  ("DeckFront$Statement", 91, "STOP", [83, 84, 79, 80]),
  ("DeckFront$Statement", 93, "PRINT*,", [80, 82, 73, 78, 84, 42, 44]),
  ("DeckFront$Statement", 98, "END", [69, 78, 68]),
  ("DeckFront$Statement", 100, "INTEGER", [73, 78, 84, 69, 71, 69, 82]),
  ("DeckFront$Statement", 102, "REAL", [82, 69, 65, 76]),
  ("DeckFront$Statement", 104, "LOGICAL", [76, 79, 71, 73, 67, 65, 76]),
  ("DeckFront$Statement", 109, "DIMENSION", [68, 73, 77, 69, 78, 83, 73, 79, 78]),
  ("DeckFront$Statement", 111, "GOTO(", [71, 79, 84, 79, 40])]
def strQ (i : Nat) : sK := strJ.getD i ("", 0, "", [])
def lenS (i : Nat) : Nat := (strQ i).2.2.2.length
def bytS (i k : Nat) : Int32 := (strQ i).2.2.2.getD k 0
def nestQ : List (String × Nat × MethodName × String) := [
  ("DeckFront", 9, ({ cls := "DeckFront$Card", name := "<init>", desc := "()V" } : Jvm.MethodName), "DeckFront"),
  ("DeckFront$Deck", 17, ({ cls := "DeckFront$Statement", name := "<init>", desc := "()V" } : Jvm.MethodName), "DeckFront"),
  ("DeckFront$Statement", 3, ({ cls := "DeckFront$Tape", name := "<init>", desc := "()V" } : Jvm.MethodName), "DeckFront"),
  ("DeckFront", 25, ({ cls := "DeckFront$Structure", name := "<init>", desc := "()V" } : Jvm.MethodName), "DeckFront"),
  ("DeckFront$Card", 23, ({ cls := "DeckFront", name := "isLetter", desc := "(I)Z" } : Jvm.MethodName), "DeckFront"),
  ("DeckFront$Card", 26, ({ cls := "DeckFront", name := "isDigit", desc := "(I)Z" } : Jvm.MethodName), "DeckFront"),
  ("DeckFront$Tape", 63, ({ cls := "DeckFront", name := "isLetter", desc := "(I)Z" } : Jvm.MethodName), "DeckFront"),
  ("DeckFront$Tape", 59, ({ cls := "DeckFront", name := "isDigit", desc := "(I)Z" } : Jvm.MethodName), "DeckFront"),
  ("DeckFront$Deck", 69, ({ cls := "DeckFront", name := "typeByLetter", desc := "(J)I" } : Jvm.MethodName), "DeckFront")]
/-- one String constant, at the cells adK i and adV i, that no method here writes -/
def strE (adK adV : Nat → Nat) (A : Nat → Prop) (U : State) (i : Nat) : Prop := vk_R (strQ i).1 (strQ i).2.1 (strQ i).2.2.1 (adK i) U ∧ va_O "java/lang/String" (adK i) A U U.heap ∧ va_OF "java/lang/String" "coder" "B" (.int 0) (adK i) A U U.heap ∧ va_OF "java/lang/String" "value" "[B" (.ref (adV i)) (adK i) A U U.heap ∧ va_T .byte (adV i) (lenS i) (fun j => .int (bytS i j)) A U U.heap
/-- what stays through the whole run -/
def EvX (adK adV : Nat → Nat) (fm : Option Nat) (A : Nat → Prop) (U : State) : Prop := (va_Z "java/lang/String" "COMPACT_STRINGS" "Z" (.int 1) A U U.heap ∧ va_Z "jdk/internal/util/Preconditions" "SIOOBE_FORMATTER" "Ljava/util/function/BiFunction;" (va_rf fm) A U U.heap) ∧ (∀ i, i < 56 → strE adK adV A U i) ∧ (∀ q ∈ nestQ, va_Nw (.methodLinkNest q.1 q.2.1 q.2.2.1 q.2.2.2) U) ∧ va_AO "DeckFront$Statement" U
theorem strE.step {adK adV : Nat → Nat} {A A' : Nat → Prop} {s U : State} {i : Nat} (h : strE adK adV A s i) (hW : s.WarmedH U.vm) (hq : ∀ q : Nat, q < s.heap.size → ¬ A q → U.heap[q]? = s.heap[q]?) (hA : ∀ q, A' q → A q) : strE adK adV A' U i :=
  ⟨h.1.warm hW, ((h.2.1.moved hW.alike).kept hq).narrow hA, ((h.2.2.1.moved hW.alike).kept hq).narrow hA, ((h.2.2.2.1.moved hW.alike).kept hq).narrow hA, ((h.2.2.2.2.moved hW.alike).kept hq).narrow hA⟩
theorem EvX.ok {adK adV : Nat → Nat} {fm : Option Nat} : xEok (EvX adK adV fm) := by
  refine ⟨fun A A' s U h hW hz hq hA => ⟨⟨((h.1.1.moved hW.alike).kept hq).narrow hA, ((h.1.2.moved hW.alike).kept hq).narrow hA⟩, fun i hi => (h.2.1 i hi).step hW hq hA, fun q hq' => (h.2.2.1 q hq').warmM hW, h.2.2.2.moved hW.alike⟩, fun A U g mk a h => ⟨⟨va_Z.moved (u := U) (U := U.calling g mk a) (Vm.Alike.refl U.vm) h.1.1, va_Z.moved (u := U) (U := U.calling g mk a) (Vm.Alike.refl U.vm) h.1.2⟩, fun i hi => ?_, fun q hq => va_Nw.same (u := U) (U := U.calling g mk a) rfl rfl (h.2.2.1 q hq), va_AO.moved (u := U) (U := U.calling g mk a) (Vm.Alike.refl U.vm) h.2.2.2⟩⟩
  have h1 := h.2.1 i hi
  exact ⟨vk_R.same (u := U) (U := U.calling g mk a) rfl h1.1, va_O.moved (u := U) (U := U.calling g mk a) (Vm.Alike.refl U.vm) h1.2.1, va_OF.moved (u := U) (U := U.calling g mk a) (Vm.Alike.refl U.vm) h1.2.2.1, va_OF.moved (u := U) (U := U.calling g mk a) (Vm.Alike.refl U.vm) h1.2.2.2.1, va_T.moved (u := U) (U := U.calling g mk a) (Vm.Alike.refl U.vm) h1.2.2.2.2⟩
/-- an environment that gives all that -/
def xEv (adK adV : Nat → Nat) (fm : Option Nat) (Ev : (Nat → Prop) → State → Prop) : Prop := ∀ A s, Ev A s → EvX adK adV fm A s
/-- the words of wG hold where those of the tables do -/
theorem wG_ok {args : Array Value} {s : State} (h : ∀ w ∈ lw_tbl, w.before args s = true) : ∀ w ∈ wG, w.before args s = true := by
  intro w hw
  rcases wg_tb hw with h1 | h1
  · rcases List.mem_cons.mp h1 with rfl | h1
    · exact x_selP (x0 := ({ cls := "DeckFront$Statement", name := "take", desc := "(Ljava/lang/String;)Z" } : Jvm.MethodName)) (y0 := ({ cls := "DeckFront$Tape", name := "take", desc := "(Ljava/lang/String;)Z" } : Jvm.MethodName)) rfl ⟨by decide, by decide⟩ (h _ (wt_3 (List.mem_of_getElem? (i := 72) rfl))) (h _ (wt_2 (List.mem_of_getElem? (i := 62) rfl))) (h _ (wt_2 (List.mem_of_getElem? (i := 63) rfl)))
    · rcases List.mem_cons.mp h1 with rfl | h1
      · exact x_selP (x0 := ({ cls := "DeckFront$Statement", name := "take", desc := "(Ljava/lang/String;)Z" } : Jvm.MethodName)) (y0 := ({ cls := "DeckFront$Tape", name := "take", desc := "(Ljava/lang/String;)Z" } : Jvm.MethodName)) rfl ⟨by decide, by decide⟩ (h _ (wt_3 (List.mem_of_getElem? (i := 72) rfl))) (h _ (wt_3 (List.mem_of_getElem? (i := 144) rfl))) (h _ (wt_3 (List.mem_of_getElem? (i := 145) rfl)))
      · rcases List.mem_cons.mp h1 with rfl | h1
        · exact x_selP (x0 := ({ cls := "DeckFront$Statement", name := "take", desc := "(Ljava/lang/String;)Z" } : Jvm.MethodName)) (y0 := ({ cls := "DeckFront$Tape", name := "take", desc := "(Ljava/lang/String;)Z" } : Jvm.MethodName)) rfl ⟨by decide, by decide⟩ (h _ (wt_3 (List.mem_of_getElem? (i := 72) rfl))) (h _ (wt_3 (List.mem_of_getElem? (i := 149) rfl))) (h _ (wt_3 (List.mem_of_getElem? (i := 150) rfl)))
        · cases h1
  · exact h w h1
section RE
variable {S : Type} {l : Launch} {D : va_G} {cl : List vw_C} {tys : List (ClassId × FieldType)} {Ev : (Nat → Prop) → State → Prop} {own : String} {cc : ByteArray} {nL : Nat} {Ts : List Cond} {rm : Room} {ret : Option FieldType} {wd : S → va_W} {post : Option Value → S → Prop} {mc ms kc ks : Nat} {pc : Nat} {lv lv' : List (Nat × Value)} {st : List Value} {u u' : S}
theorem x_ldcS {index q : Nat} {tx : String} (hZ : ∀ (A : Nat → Prop) (s : State), Ev A s → vk_R own index tx q s) (hd : decode cc pc = .ok (.ldc index, 2)) (kk : RR l D cl tys Ev own cc nL Ts rm ret wd post mc ms kc ks (pc + 2) lv (.ref q :: st) u) : RR l D cl tys Ev own cc nL Ts rm ret wd post mc ms kc ks pc lv st u := by
  intro p e s m args below meth c A H locs ls hX hP hD hS hl
  obtain ⟨hx, hb, hml, hown, hts, hK, hEv, -⟩ := id hX
  exact va_ldcS hx hb hown (hZ A s hEv) hd (kk p e s m args below meth c A H locs ls hX hP hD hS hl)
theorem x_gets {C n d : String} {v : Value} {index : Nat} (hZ : ∀ (A : Nat → Prop) (s : State), Ev A s → va_Z C n d v A s s.heap) (hlk : Cond.fieldLink own index C n d ∈ Ts) (hd : decode cc pc = .ok (.getstatic index, 3)) (kk : RR l D cl tys Ev own cc nL Ts rm ret wd post mc ms kc ks (pc + 3) lv (v :: st) u) : RR l D cl tys Ev own cc nL Ts rm ret wd post mc ms kc ks pc lv st u := by
  intro p e s m args below meth c A H locs ls hX hP hD hS hl
  obtain ⟨hx, hb, hml, hown, hts, hK, hEv, -⟩ := id hX
  exact va_gets hx hb (hZ A s hEv) hS hown (hts _ hlk) (fun _ h => h) hd (kk p e s m args below meth c A H locs ls hX hP hD hS hl)
theorem x_getO {o n d : String} {v : Value} {index q : Nat} (hO : ∀ (A : Nat → Prop) (s : State), Ev A s → va_OF o n d v q A s s.heap) (hlk : Cond.fieldLink own index o n d ∈ Ts) (hd : decode cc pc = .ok (.getfield index, 3)) (kk : RR l D cl tys Ev own cc nL Ts rm ret wd post mc ms kc ks (pc + 3) lv (v :: st) u) : RR l D cl tys Ev own cc nL Ts rm ret wd post mc ms kc ks pc lv (.ref q :: st) u := by
  intro p e s m args below meth c A H locs ls hX hP hD hS hl
  obtain ⟨hx, hb, hml, hown, hts, hK, hEv, -⟩ := id hX
  exact vk_getf hx hb (hO A s hEv) hS hown (hts _ hlk) (fun _ h => h) hd (kk p e s m args below meth c A H locs ls hX hP hD hS hl)
theorem x_tb {t N : Nat} {f : Nat → Int32} {i : Int32} (hT : ∀ (A : Nat → Prop) (s : State), Ev A s → va_T .byte t N (fun j => .int (f j)) A s s.heap) (hin : vp_in i N) (hd : decode cc pc = .ok (.baload, 1)) (kk : RR l D cl tys Ev own cc nL Ts rm ret wd post mc ms kc ks (pc + 1) lv (.int (f i.toNatClampNeg) :: st) u) : RR l D cl tys Ev own cc nL Ts rm ret wd post mc ms kc ks pc lv (.int i :: .ref t :: st) u := by
  intro p e s m args below meth c A H locs ls hX hP hD hS hl
  obtain ⟨hx, hb, hml, hown, hts, hK, hEv, -⟩ := id hX
  exact va_tb hx hb (hT A s hEv) hS hin rfl hd (kk p e s m args below meth c A H locs ls hX hP hD hS hl)
theorem x_tlen {t N : Nat} {f : Nat → Int32} (hT : ∀ (A : Nat → Prop) (s : State), Ev A s → va_T .byte t N (fun j => .int (f j)) A s s.heap) (hd : decode cc pc = .ok (.arraylength, 1)) (kk : RR l D cl tys Ev own cc nL Ts rm ret wd post mc ms kc ks (pc + 1) lv (.int (nI N) :: st) u) : RR l D cl tys Ev own cc nL Ts rm ret wd post mc ms kc ks pc lv (.ref t :: st) u := by
  intro p e s m args below meth c A H locs ls hX hP hD hS hl
  obtain ⟨hx, hb, hml, hown, hts, hK, hEv, -⟩ := id hX
  exact va_tlen hx hb (hT A s hEv) hS rfl hd (kk p e s m args below meth c A H locs ls hX hP hD hS hl)
theorem x_i2b {x : Int32} (hd : decode cc pc = .ok (.i2b, 1)) (kk : RR l D cl tys Ev own cc nL Ts rm ret wd post mc ms kc ks (pc + 1) lv (.int x.toInt8.toInt32 :: st) u) : RR l D cl tys Ev own cc nL Ts rm ret wd post mc ms kc ks pc lv (.int x :: st) u := by
  intro p e s m args below meth c A H locs ls hX hP hD hS hl
  exact lv_i2b hX.1 hX.2.1 hd rfl (kk p e s m args below meth c A H locs ls hX hP hD hS hl)
theorem x_mmax {index : Nat} {x y : Int32} (hlk : Cond.methodLink own index Lib.Math.max.name ∈ Ts) (hst : Cond.static Lib.Math.max.name ∈ Ts) (hini : Cond.initialized "java/lang/Math" ∈ Ts) (hcd : Cond.code Lib.Math.max.name Lib.Math.max.code 2 (some .int) ∈ Ts) (hf : 1 ≤ rm.frames) (hlo : (st.map fun v => v.category).sum + 13 ≤ rm.locals) (hc : kc ≤ rm.cells) (hs : ks ≤ rm.slots) (hd : decode cc pc = .ok (.invokestatic index, 3)) (kk : RR l D cl tys Ev own cc nL Ts rm ret wd post mc ms kc ks (pc + 3) lv (.int (if x < y then y else x) :: st) u) : RR l D cl tys Ev own cc nL Ts rm ret wd post mc ms kc ks pc lv (.int y :: .int x :: st) u := by
  intro p e s m args below meth c A H locs ls hX hP hD hS hl
  obtain ⟨hx, hb, hml, hown, hts, hK, hEv, -⟩ := id hX
  exact va_mmax hx hb (by rw [hml]; exact hl.1.symm) hown (hts _ hlk) (hts _ hst) (hts _ hini) (hts _ hcd) hf hlo hc hs hd (kk p e s m args below meth c A H locs ls hX hP hD hS hl)
theorem x_mmin {index : Nat} {x y : Int32} (hlk : Cond.methodLink own index Lib.Math.min.name ∈ Ts) (hst : Cond.static Lib.Math.min.name ∈ Ts) (hini : Cond.initialized "java/lang/Math" ∈ Ts) (hcd : Cond.code Lib.Math.min.name Lib.Math.min.code 2 (some .int) ∈ Ts) (hf : 1 ≤ rm.frames) (hlo : (st.map fun v => v.category).sum + 13 ≤ rm.locals) (hc : kc ≤ rm.cells) (hs : ks ≤ rm.slots) (hd : decode cc pc = .ok (.invokestatic index, 3)) (kk : RR l D cl tys Ev own cc nL Ts rm ret wd post mc ms kc ks (pc + 3) lv (.int (if y < x then y else x) :: st) u) : RR l D cl tys Ev own cc nL Ts rm ret wd post mc ms kc ks pc lv (.int y :: .int x :: st) u := by
  intro p e s m args below meth c A H locs ls hX hP hD hS hl
  obtain ⟨hx, hb, hml, hown, hts, hK, hEv, -⟩ := id hX
  exact va_mmin hx hb (by rw [hml]; exact hl.1.symm) hown (hts _ hlk) (hts _ hst) (hts _ hini) (hts _ hcd) hf hlo hc hs hd (kk p e s m args below meth c A H locs ls hX hP hD hS hl)
end RE
end
section
abbrev y_JS_length : MethodName := ⟨"java/lang/String", "length", "()I"⟩
abbrev b_JS_length : ByteArray := prog_15_method_54_code
abbrev w_JS_length : List Cond := (Jvm.Cond.code ({ cls := "java/lang/String", name := "length", desc := "()I" } : Jvm.MethodName) prog_15_method_54_code (1 : Nat) (Option.some Jvm.ClassFile.FieldType.int)) :: wG
theorem d_JS_length_0 : decode b_JS_length 0 = .ok (.aload_n 0, 1) := by decide +kernel
theorem d_JS_length_1 : decode b_JS_length 1 = .ok (.getfield 9, 3) := by decide +kernel
theorem d_JS_length_4 : decode b_JS_length 4 = .ok (.arraylength, 1) := by decide +kernel
theorem d_JS_length_5 : decode b_JS_length 5 = .ok (.aload_n 0, 1) := by decide +kernel
theorem d_JS_length_6 : decode b_JS_length 6 = .ok (.invokevirtual 335, 3) := by decide +kernel
theorem d_JS_length_9 : decode b_JS_length 9 = .ok (.ishr, 1) := by decide +kernel
theorem d_JS_length_10 : decode b_JS_length 10 = .ok (.ireturn, 1) := by decide +kernel
abbrev y_JS_coder : MethodName := ⟨"java/lang/String", "coder", "()B"⟩
abbrev b_JS_coder : ByteArray := prog_15_method_152_code
abbrev w_JS_coder : List Cond := (Jvm.Cond.code ({ cls := "java/lang/String", name := "coder", desc := "()B" } : Jvm.MethodName) prog_15_method_152_code (1 : Nat) (Option.some Jvm.ClassFile.FieldType.byte)) :: wG
theorem d_JS_coder_0 : decode b_JS_coder 0 = .ok (.getstatic 38, 3) := by decide +kernel
theorem d_JS_coder_3 : decode b_JS_coder 3 = .ok (.ifCond .eq 10, 3) := by decide +kernel
theorem d_JS_coder_6 : decode b_JS_coder 6 = .ok (.aload_n 0, 1) := by decide +kernel
theorem d_JS_coder_7 : decode b_JS_coder 7 = .ok (.getfield 15, 3) := by decide +kernel
theorem d_JS_coder_10 : decode b_JS_coder 10 = .ok (.goto 4, 3) := by decide +kernel
theorem d_JS_coder_13 : decode b_JS_coder 13 = .ok (.iconst 1, 1) := by decide +kernel
theorem d_JS_coder_14 : decode b_JS_coder 14 = .ok (.ireturn, 1) := by decide +kernel
abbrev y_JS_isLatin1 : MethodName := ⟨"java/lang/String", "isLatin1", "()Z"⟩
abbrev b_JS_isLatin1 : ByteArray := prog_15_method_154_code
abbrev w_JS_isLatin1 : List Cond := (Jvm.Cond.code ({ cls := "java/lang/String", name := "isLatin1", desc := "()Z" } : Jvm.MethodName) prog_15_method_154_code (1 : Nat) (Option.some Jvm.ClassFile.FieldType.boolean)) :: wG
theorem d_JS_isLatin1_0 : decode b_JS_isLatin1 0 = .ok (.getstatic 38, 3) := by decide +kernel
theorem d_JS_isLatin1_3 : decode b_JS_isLatin1 3 = .ok (.ifCond .eq 14, 3) := by decide +kernel
theorem d_JS_isLatin1_6 : decode b_JS_isLatin1 6 = .ok (.aload_n 0, 1) := by decide +kernel
theorem d_JS_isLatin1_7 : decode b_JS_isLatin1 7 = .ok (.getfield 15, 3) := by decide +kernel
theorem d_JS_isLatin1_10 : decode b_JS_isLatin1 10 = .ok (.ifCond .ne 7, 3) := by decide +kernel
theorem d_JS_isLatin1_13 : decode b_JS_isLatin1 13 = .ok (.iconst 1, 1) := by decide +kernel
theorem d_JS_isLatin1_14 : decode b_JS_isLatin1 14 = .ok (.goto 4, 3) := by decide +kernel
theorem d_JS_isLatin1_17 : decode b_JS_isLatin1 17 = .ok (.iconst 0, 1) := by decide +kernel
theorem d_JS_isLatin1_18 : decode b_JS_isLatin1 18 = .ok (.ireturn, 1) := by decide +kernel
abbrev y_JS_charAt : MethodName := ⟨"java/lang/String", "charAt", "(I)C"⟩
abbrev b_JS_charAt : ByteArray := prog_15_method_56_code
abbrev w_JS_charAt : List Cond := (Jvm.Cond.code ({ cls := "java/lang/String", name := "charAt", desc := "(I)C" } : Jvm.MethodName) prog_15_method_56_code (2 : Nat) (Option.some Jvm.ClassFile.FieldType.char)) :: wG
theorem d_JS_charAt_0 : decode b_JS_charAt 0 = .ok (.aload_n 0, 1) := by decide +kernel
theorem d_JS_charAt_1 : decode b_JS_charAt 1 = .ok (.invokevirtual 492, 3) := by decide +kernel
theorem d_JS_charAt_4 : decode b_JS_charAt 4 = .ok (.ifCond .eq 12, 3) := by decide +kernel
theorem d_JS_charAt_7 : decode b_JS_charAt 7 = .ok (.aload_n 0, 1) := by decide +kernel
theorem d_JS_charAt_8 : decode b_JS_charAt 8 = .ok (.getfield 9, 3) := by decide +kernel
theorem d_JS_charAt_11 : decode b_JS_charAt 11 = .ok (.iload_n 1, 1) := by decide +kernel
theorem d_JS_charAt_12 : decode b_JS_charAt 12 = .ok (.invokestatic 495, 3) := by decide +kernel
theorem d_JS_charAt_15 : decode b_JS_charAt 15 = .ok (.ireturn, 1) := by decide +kernel
theorem d_JS_charAt_16 : decode b_JS_charAt 16 = .ok (.aload_n 0, 1) := by decide +kernel
theorem d_JS_charAt_17 : decode b_JS_charAt 17 = .ok (.getfield 9, 3) := by decide +kernel
theorem d_JS_charAt_20 : decode b_JS_charAt 20 = .ok (.iload_n 1, 1) := by decide +kernel
theorem d_JS_charAt_21 : decode b_JS_charAt 21 = .ok (.invokestatic 498, 3) := by decide +kernel
theorem d_JS_charAt_24 : decode b_JS_charAt 24 = .ok (.ireturn, 1) := by decide +kernel
abbrev y_JS_indexOf0 : MethodName := ⟨"java/lang/String", "indexOf", "(I)I"⟩
abbrev b_JS_indexOf0 : ByteArray := prog_15_method_79_code
abbrev w_JS_indexOf0 : List Cond := (Jvm.Cond.code ({ cls := "java/lang/String", name := "indexOf", desc := "(I)I" } : Jvm.MethodName) prog_15_method_79_code (2 : Nat) (Option.some Jvm.ClassFile.FieldType.int)) :: wG
theorem d_JS_indexOf0_0 : decode b_JS_indexOf0 0 = .ok (.aload_n 0, 1) := by decide +kernel
theorem d_JS_indexOf0_1 : decode b_JS_indexOf0 1 = .ok (.iload_n 1, 1) := by decide +kernel
theorem d_JS_indexOf0_2 : decode b_JS_indexOf0 2 = .ok (.iconst 0, 1) := by decide +kernel
theorem d_JS_indexOf0_3 : decode b_JS_indexOf0 3 = .ok (.invokevirtual 633, 3) := by decide +kernel
theorem d_JS_indexOf0_6 : decode b_JS_indexOf0 6 = .ok (.ireturn, 1) := by decide +kernel
abbrev y_JS_indexOf1 : MethodName := ⟨"java/lang/String", "indexOf", "(II)I"⟩
abbrev b_JS_indexOf1 : ByteArray := prog_15_method_80_code
abbrev w_JS_indexOf1 : List Cond := (Jvm.Cond.code ({ cls := "java/lang/String", name := "indexOf", desc := "(II)I" } : Jvm.MethodName) prog_15_method_80_code (3 : Nat) (Option.some Jvm.ClassFile.FieldType.int)) :: wG
theorem d_JS_indexOf1_0 : decode b_JS_indexOf1 0 = .ok (.aload_n 0, 1) := by decide +kernel
theorem d_JS_indexOf1_1 : decode b_JS_indexOf1 1 = .ok (.invokevirtual 492, 3) := by decide +kernel
theorem d_JS_indexOf1_4 : decode b_JS_indexOf1 4 = .ok (.ifCond .eq 19, 3) := by decide +kernel
theorem d_JS_indexOf1_7 : decode b_JS_indexOf1 7 = .ok (.aload_n 0, 1) := by decide +kernel
theorem d_JS_indexOf1_8 : decode b_JS_indexOf1 8 = .ok (.getfield 9, 3) := by decide +kernel
theorem d_JS_indexOf1_11 : decode b_JS_indexOf1 11 = .ok (.iload_n 1, 1) := by decide +kernel
theorem d_JS_indexOf1_12 : decode b_JS_indexOf1 12 = .ok (.iload_n 2, 1) := by decide +kernel
theorem d_JS_indexOf1_13 : decode b_JS_indexOf1 13 = .ok (.aload_n 0, 1) := by decide +kernel
theorem d_JS_indexOf1_14 : decode b_JS_indexOf1 14 = .ok (.invokevirtual 505, 3) := by decide +kernel
theorem d_JS_indexOf1_17 : decode b_JS_indexOf1 17 = .ok (.invokestatic 637, 3) := by decide +kernel
theorem d_JS_indexOf1_20 : decode b_JS_indexOf1 20 = .ok (.goto 16, 3) := by decide +kernel
theorem d_JS_indexOf1_23 : decode b_JS_indexOf1 23 = .ok (.aload_n 0, 1) := by decide +kernel
theorem d_JS_indexOf1_24 : decode b_JS_indexOf1 24 = .ok (.getfield 9, 3) := by decide +kernel
theorem d_JS_indexOf1_27 : decode b_JS_indexOf1 27 = .ok (.iload_n 1, 1) := by decide +kernel
theorem d_JS_indexOf1_28 : decode b_JS_indexOf1 28 = .ok (.iload_n 2, 1) := by decide +kernel
theorem d_JS_indexOf1_29 : decode b_JS_indexOf1 29 = .ok (.aload_n 0, 1) := by decide +kernel
theorem d_JS_indexOf1_30 : decode b_JS_indexOf1 30 = .ok (.invokevirtual 505, 3) := by decide +kernel
theorem d_JS_indexOf1_33 : decode b_JS_indexOf1 33 = .ok (.invokestatic 640, 3) := by decide +kernel
theorem d_JS_indexOf1_36 : decode b_JS_indexOf1 36 = .ok (.ireturn, 1) := by decide +kernel
abbrev y_JS_checkIndex : MethodName := ⟨"java/lang/String", "checkIndex", "(II)V"⟩
abbrev b_JS_checkIndex : ByteArray := prog_15_method_155_code
abbrev w_JS_checkIndex : List Cond := (Jvm.Cond.code ({ cls := "java/lang/String", name := "checkIndex", desc := "(II)V" } : Jvm.MethodName) prog_15_method_155_code (2 : Nat) (Option.none : Option Jvm.ClassFile.FieldType)) :: wG
theorem d_JS_checkIndex_0 : decode b_JS_checkIndex 0 = .ok (.iload_n 0, 1) := by decide +kernel
theorem d_JS_checkIndex_1 : decode b_JS_checkIndex 1 = .ok (.iload_n 1, 1) := by decide +kernel
theorem d_JS_checkIndex_2 : decode b_JS_checkIndex 2 = .ok (.getstatic 1053, 3) := by decide +kernel
theorem d_JS_checkIndex_5 : decode b_JS_checkIndex 5 = .ok (.invokestatic 1059, 3) := by decide +kernel
theorem d_JS_checkIndex_8 : decode b_JS_checkIndex 8 = .ok (.pop, 1) := by decide +kernel
theorem d_JS_checkIndex_9 : decode b_JS_checkIndex 9 = .ok (.return_, 1) := by decide +kernel
abbrev y_JL_charAt : MethodName := ⟨"java/lang/StringLatin1", "charAt", "([BI)C"⟩
abbrev b_JL_charAt : ByteArray := prog_16_method_2_code
abbrev w_JL_charAt : List Cond := (Jvm.Cond.code ({ cls := "java/lang/StringLatin1", name := "charAt", desc := "([BI)C" } : Jvm.MethodName) prog_16_method_2_code (2 : Nat) (Option.some Jvm.ClassFile.FieldType.char)) :: wG
theorem d_JL_charAt_0 : decode b_JL_charAt 0 = .ok (.iload_n 1, 1) := by decide +kernel
theorem d_JL_charAt_1 : decode b_JL_charAt 1 = .ok (.aload_n 0, 1) := by decide +kernel
theorem d_JL_charAt_2 : decode b_JL_charAt 2 = .ok (.arraylength, 1) := by decide +kernel
theorem d_JL_charAt_3 : decode b_JL_charAt 3 = .ok (.invokestatic 9, 3) := by decide +kernel
theorem d_JL_charAt_6 : decode b_JL_charAt 6 = .ok (.aload_n 0, 1) := by decide +kernel
theorem d_JL_charAt_7 : decode b_JL_charAt 7 = .ok (.iload_n 1, 1) := by decide +kernel
theorem d_JL_charAt_8 : decode b_JL_charAt 8 = .ok (.baload, 1) := by decide +kernel
theorem d_JL_charAt_9 : decode b_JL_charAt 9 = .ok (.sipush 255, 3) := by decide +kernel
theorem d_JL_charAt_12 : decode b_JL_charAt 12 = .ok (.iand, 1) := by decide +kernel
theorem d_JL_charAt_13 : decode b_JL_charAt 13 = .ok (.i2c, 1) := by decide +kernel
theorem d_JL_charAt_14 : decode b_JL_charAt 14 = .ok (.ireturn, 1) := by decide +kernel
abbrev y_JL_canEncode : MethodName := ⟨"java/lang/StringLatin1", "canEncode", "(I)Z"⟩
abbrev b_JL_canEncode : ByteArray := prog_16_method_4_code
abbrev w_JL_canEncode : List Cond := (Jvm.Cond.code ({ cls := "java/lang/StringLatin1", name := "canEncode", desc := "(I)Z" } : Jvm.MethodName) prog_16_method_4_code (1 : Nat) (Option.some Jvm.ClassFile.FieldType.boolean)) :: wG
theorem d_JL_canEncode_0 : decode b_JL_canEncode 0 = .ok (.iload_n 0, 1) := by decide +kernel
theorem d_JL_canEncode_1 : decode b_JL_canEncode 1 = .ok (.ifCond .lt 14, 3) := by decide +kernel
theorem d_JL_canEncode_4 : decode b_JL_canEncode 4 = .ok (.iload_n 0, 1) := by decide +kernel
theorem d_JL_canEncode_5 : decode b_JL_canEncode 5 = .ok (.sipush 255, 3) := by decide +kernel
theorem d_JL_canEncode_8 : decode b_JL_canEncode 8 = .ok (.if_icmp .gt 7, 3) := by decide +kernel
theorem d_JL_canEncode_11 : decode b_JL_canEncode 11 = .ok (.iconst 1, 1) := by decide +kernel
theorem d_JL_canEncode_12 : decode b_JL_canEncode 12 = .ok (.goto 4, 3) := by decide +kernel
theorem d_JL_canEncode_15 : decode b_JL_canEncode 15 = .ok (.iconst 0, 1) := by decide +kernel
theorem d_JL_canEncode_16 : decode b_JL_canEncode 16 = .ok (.ireturn, 1) := by decide +kernel
abbrev y_JL_indexOf : MethodName := ⟨"java/lang/StringLatin1", "indexOf", "([BIII)I"⟩
abbrev b_JL_indexOf : ByteArray := prog_16_method_22_code
abbrev w_JL_indexOf : List Cond := (Jvm.Cond.code ({ cls := "java/lang/StringLatin1", name := "indexOf", desc := "([BIII)I" } : Jvm.MethodName) prog_16_method_22_code (4 : Nat) (Option.some Jvm.ClassFile.FieldType.int)) :: wG
theorem d_JL_indexOf_0 : decode b_JL_indexOf 0 = .ok (.iload_n 1, 1) := by decide +kernel
theorem d_JL_indexOf_1 : decode b_JL_indexOf 1 = .ok (.invokestatic 88, 3) := by decide +kernel
theorem d_JL_indexOf_4 : decode b_JL_indexOf 4 = .ok (.ifCond .ne 5, 3) := by decide +kernel
theorem d_JL_indexOf_7 : decode b_JL_indexOf 7 = .ok (.iconst (-1), 1) := by decide +kernel
theorem d_JL_indexOf_8 : decode b_JL_indexOf 8 = .ok (.ireturn, 1) := by decide +kernel
theorem d_JL_indexOf_9 : decode b_JL_indexOf 9 = .ok (.iload_n 2, 1) := by decide +kernel
theorem d_JL_indexOf_10 : decode b_JL_indexOf 10 = .ok (.iconst 0, 1) := by decide +kernel
theorem d_JL_indexOf_11 : decode b_JL_indexOf 11 = .ok (.invokestatic 92, 3) := by decide +kernel
theorem d_JL_indexOf_14 : decode b_JL_indexOf 14 = .ok (.istore_n 2, 1) := by decide +kernel
theorem d_JL_indexOf_15 : decode b_JL_indexOf 15 = .ok (.iload_n 3, 1) := by decide +kernel
theorem d_JL_indexOf_16 : decode b_JL_indexOf 16 = .ok (.aload_n 0, 1) := by decide +kernel
theorem d_JL_indexOf_17 : decode b_JL_indexOf 17 = .ok (.arraylength, 1) := by decide +kernel
theorem d_JL_indexOf_18 : decode b_JL_indexOf 18 = .ok (.invokestatic 38, 3) := by decide +kernel
theorem d_JL_indexOf_21 : decode b_JL_indexOf 21 = .ok (.istore_n 3, 1) := by decide +kernel
theorem d_JL_indexOf_22 : decode b_JL_indexOf 22 = .ok (.iload_n 2, 1) := by decide +kernel
theorem d_JL_indexOf_23 : decode b_JL_indexOf 23 = .ok (.iload_n 3, 1) := by decide +kernel
theorem d_JL_indexOf_24 : decode b_JL_indexOf 24 = .ok (.if_icmp .lt 5, 3) := by decide +kernel
theorem d_JL_indexOf_27 : decode b_JL_indexOf 27 = .ok (.iconst (-1), 1) := by decide +kernel
theorem d_JL_indexOf_28 : decode b_JL_indexOf 28 = .ok (.ireturn, 1) := by decide +kernel
theorem d_JL_indexOf_29 : decode b_JL_indexOf 29 = .ok (.aload_n 0, 1) := by decide +kernel
theorem d_JL_indexOf_30 : decode b_JL_indexOf 30 = .ok (.iload_n 1, 1) := by decide +kernel
theorem d_JL_indexOf_31 : decode b_JL_indexOf 31 = .ok (.iload_n 2, 1) := by decide +kernel
theorem d_JL_indexOf_32 : decode b_JL_indexOf 32 = .ok (.iload_n 3, 1) := by decide +kernel
theorem d_JL_indexOf_33 : decode b_JL_indexOf 33 = .ok (.invokestatic 95, 3) := by decide +kernel
theorem d_JL_indexOf_36 : decode b_JL_indexOf 36 = .ok (.ireturn, 1) := by decide +kernel
abbrev y_JL_indexOfChar : MethodName := ⟨"java/lang/StringLatin1", "indexOfChar", "([BIII)I"⟩
abbrev b_JL_indexOfChar : ByteArray := prog_16_method_23_code
abbrev w_JL_indexOfChar : List Cond := (Jvm.Cond.code ({ cls := "java/lang/StringLatin1", name := "indexOfChar", desc := "([BIII)I" } : Jvm.MethodName) prog_16_method_23_code (6 : Nat) (Option.some Jvm.ClassFile.FieldType.int)) :: wG
theorem d_JL_indexOfChar_0 : decode b_JL_indexOfChar 0 = .ok (.iload_n 1, 1) := by decide +kernel
theorem d_JL_indexOfChar_1 : decode b_JL_indexOfChar 1 = .ok (.i2b, 1) := by decide +kernel
theorem d_JL_indexOfChar_2 : decode b_JL_indexOfChar 2 = .ok (.istore 4, 2) := by decide +kernel
theorem d_JL_indexOfChar_4 : decode b_JL_indexOfChar 4 = .ok (.iload_n 2, 1) := by decide +kernel
theorem d_JL_indexOfChar_5 : decode b_JL_indexOfChar 5 = .ok (.istore 5, 2) := by decide +kernel
theorem d_JL_indexOfChar_7 : decode b_JL_indexOfChar 7 = .ok (.iload 5, 2) := by decide +kernel
theorem d_JL_indexOfChar_9 : decode b_JL_indexOfChar 9 = .ok (.iload_n 3, 1) := by decide +kernel
theorem d_JL_indexOfChar_10 : decode b_JL_indexOfChar 10 = .ok (.if_icmp .ge 21, 3) := by decide +kernel
theorem d_JL_indexOfChar_13 : decode b_JL_indexOfChar 13 = .ok (.aload_n 0, 1) := by decide +kernel
theorem d_JL_indexOfChar_14 : decode b_JL_indexOfChar 14 = .ok (.iload 5, 2) := by decide +kernel
theorem d_JL_indexOfChar_16 : decode b_JL_indexOfChar 16 = .ok (.baload, 1) := by decide +kernel
theorem d_JL_indexOfChar_17 : decode b_JL_indexOfChar 17 = .ok (.iload 4, 2) := by decide +kernel
theorem d_JL_indexOfChar_19 : decode b_JL_indexOfChar 19 = .ok (.if_icmp .ne 6, 3) := by decide +kernel
theorem d_JL_indexOfChar_22 : decode b_JL_indexOfChar 22 = .ok (.iload 5, 2) := by decide +kernel
theorem d_JL_indexOfChar_24 : decode b_JL_indexOfChar 24 = .ok (.ireturn, 1) := by decide +kernel
theorem d_JL_indexOfChar_25 : decode b_JL_indexOfChar 25 = .ok (.iinc 5 1, 3) := by decide +kernel
theorem d_JL_indexOfChar_28 : decode b_JL_indexOfChar 28 = .ok (.goto (-21), 3) := by decide +kernel
theorem d_JL_indexOfChar_31 : decode b_JL_indexOfChar 31 = .ok (.iconst (-1), 1) := by decide +kernel
theorem d_JL_indexOfChar_32 : decode b_JL_indexOfChar 32 = .ok (.ireturn, 1) := by decide +kernel
abbrev y_JP_checkIndex : MethodName := ⟨"jdk/internal/util/Preconditions", "checkIndex", "(IILjava/util/function/BiFunction;)I"⟩
abbrev b_JP_checkIndex : ByteArray := prog_19_method_11_code
abbrev w_JP_checkIndex : List Cond := (Jvm.Cond.code ({ cls := "jdk/internal/util/Preconditions", name := "checkIndex", desc := "(IILjava/util/function/BiFunction;)I" } : Jvm.MethodName) prog_19_method_11_code (3 : Nat) (Option.some Jvm.ClassFile.FieldType.int)) :: wG
theorem d_JP_checkIndex_0 : decode b_JP_checkIndex 0 = .ok (.iload_n 0, 1) := by decide +kernel
theorem d_JP_checkIndex_1 : decode b_JP_checkIndex 1 = .ok (.ifCond .lt 8, 3) := by decide +kernel
theorem d_JP_checkIndex_4 : decode b_JP_checkIndex 4 = .ok (.iload_n 0, 1) := by decide +kernel
theorem d_JP_checkIndex_5 : decode b_JP_checkIndex 5 = .ok (.iload_n 1, 1) := by decide +kernel
theorem d_JP_checkIndex_6 : decode b_JP_checkIndex 6 = .ok (.if_icmp .lt 10, 3) := by decide +kernel
theorem d_JP_checkIndex_9 : decode b_JP_checkIndex 9 = .ok (.aload_n 2, 1) := by decide +kernel
theorem d_JP_checkIndex_10 : decode b_JP_checkIndex 10 = .ok (.iload_n 0, 1) := by decide +kernel
theorem d_JP_checkIndex_11 : decode b_JP_checkIndex 11 = .ok (.iload_n 1, 1) := by decide +kernel
theorem d_JP_checkIndex_12 : decode b_JP_checkIndex 12 = .ok (.invokestatic 95, 3) := by decide +kernel
theorem d_JP_checkIndex_15 : decode b_JP_checkIndex 15 = .ok (.athrow, 1) := by decide +kernel
theorem d_JP_checkIndex_16 : decode b_JP_checkIndex 16 = .ok (.iload_n 0, 1) := by decide +kernel
theorem d_JP_checkIndex_17 : decode b_JP_checkIndex 17 = .ok (.ireturn, 1) := by decide +kernel
theorem k_JS_335 {a : Cond} : xkV (a :: wG) "java/lang/String" 335 "java/lang/String" y_JS_coder b_JS_coder 1 (Option.some Jvm.ClassFile.FieldType.byte) w_JS_coder 0 := ⟨⟨gG tw_186, ⟨_, rfl⟩, cG tw_8, by decide, by decide, by decide +kernel⟩, cG tw_183, cG tw_184, fun _ _ h => h _ (cG tw_185)⟩
theorem k_JS_492 {a : Cond} : xkV (a :: wG) "java/lang/String" 492 "java/lang/String" y_JS_isLatin1 b_JS_isLatin1 1 (Option.some Jvm.ClassFile.FieldType.boolean) w_JS_isLatin1 0 := ⟨⟨gG tw_176, ⟨_, rfl⟩, cG tw_8, by decide, by decide, by decide +kernel⟩, cG tw_173, cG tw_174, fun _ _ h => h _ (cG tw_175)⟩
theorem k_JS_495 {a : Cond} : xkS (a :: wG) "java/lang/String" 495 y_JL_charAt b_JL_charAt 2 (Option.some Jvm.ClassFile.FieldType.char) w_JL_charAt 2 := ⟨⟨gG tw_567, ⟨_, rfl⟩, cG tw_9, by decide, by decide, by decide +kernel⟩, cG tw_565, cG tw_566⟩
theorem k_JS_633 {a : Cond} : xkV (a :: wG) "java/lang/String" 633 "java/lang/String" y_JS_indexOf1 b_JS_indexOf1 3 (Option.some Jvm.ClassFile.FieldType.int) w_JS_indexOf1 2 := ⟨⟨gG tw_172, ⟨_, rfl⟩, cG tw_8, by decide, by decide, by decide +kernel⟩, cG tw_169, cG tw_170, fun _ _ h => h _ (cG tw_171)⟩
theorem k_JS_505 {a : Cond} : xkV (a :: wG) "java/lang/String" 505 "java/lang/String" y_JS_length b_JS_length 1 (Option.some Jvm.ClassFile.FieldType.int) w_JS_length 0 := ⟨⟨gG tw_182, ⟨_, rfl⟩, cG tw_8, by decide, by decide, by decide +kernel⟩, cG tw_179, cG tw_180, fun _ _ h => h _ (cG tw_181)⟩
theorem k_JS_637 {a : Cond} : xkS (a :: wG) "java/lang/String" 637 y_JL_indexOf b_JL_indexOf 4 (Option.some Jvm.ClassFile.FieldType.int) w_JL_indexOf 4 := ⟨⟨gG tw_189, ⟨_, rfl⟩, cG tw_9, by decide, by decide, by decide +kernel⟩, cG tw_187, cG tw_188⟩
theorem k_JS_1059 {a : Cond} : xkS (a :: wG) "java/lang/String" 1059 y_JP_checkIndex b_JP_checkIndex 3 (Option.some Jvm.ClassFile.FieldType.int) w_JP_checkIndex 3 := ⟨⟨gG tw_573, ⟨_, rfl⟩, cG tw_12, by decide, by decide, by decide +kernel⟩, cG tw_571, cG tw_572⟩
theorem k_JL_9 {a : Cond} : xkS (a :: wG) "java/lang/StringLatin1" 9 y_JS_checkIndex b_JS_checkIndex 2 (Option.none : Option Jvm.ClassFile.FieldType) w_JS_checkIndex 2 := ⟨⟨gG tw_570, ⟨_, rfl⟩, cG tw_8, by decide, by decide, by decide +kernel⟩, cG tw_568, cG tw_569⟩
theorem k_JL_88 {a : Cond} : xkS (a :: wG) "java/lang/StringLatin1" 88 y_JL_canEncode b_JL_canEncode 1 (Option.some Jvm.ClassFile.FieldType.boolean) w_JL_canEncode 1 := ⟨⟨gG tw_192, ⟨_, rfl⟩, cG tw_9, by decide, by decide, by decide +kernel⟩, cG tw_190, cG tw_191⟩
theorem k_JL_95 {a : Cond} : xkS (a :: wG) "java/lang/StringLatin1" 95 y_JL_indexOfChar b_JL_indexOfChar 6 (Option.some Jvm.ClassFile.FieldType.int) w_JL_indexOfChar 4 := ⟨⟨gG tw_201, ⟨_, rfl⟩, cG tw_9, by decide, by decide, by decide +kernel⟩, cG tw_199, cG tw_200⟩
theorem lenS_all : ∀ i, i < 56 → lenS i < 100 := by decide +kernel
theorem lenS_lt (i : Nat) : lenS i < 100 := by
  by_cases h : i < 56
  · exact lenS_all i h
  · have : strJ.length = 56 := rfl
    have e : strQ i = ("", 0, "", []) := by
      unfold strQ
      rw [List.getD_eq_getElem?_getD, List.getElem?_eq_none (by omega)]
      rfl
    unfold lenS
    rw [e]
    decide
def P_JS_coder (post : Int32 → Unit → Prop) (i : Nat) (u : Unit) : Prop := post 0 u
set_option maxHeartbeats 600000 in
set_option maxRecDepth 100000 in
theorem c_JS_coder (l : Launch) (D : va_G) (cs : Nat → ClassId) (Ev : (Nat → Prop) → State → Prop) (hE : xEok Ev) (adK adV : Nat → Nat) (fm : Option Nat) (X : xEv adK adV fm Ev) (i : Nat) (hi : i < 56) (d : Nat) (post : Int32 → Unit → Prop) (u : Unit) (h : P_JS_coder post i  u) : xC l D clX (tysX cs) Ev y_JS_coder w_JS_coder (rmD (d + 0)) wd0 [.ref (adK i)] u (pI post) 0 0 := by
  unfold P_JS_coder at h
  refine xC.of (cc := b_JS_coder) (nL := 1) (ret := (some .byte)) (by decide) rfl (Nat.le_of_ble_eq_true rfl) ?_
  show RR l D clX (tysX cs) Ev "java/lang/String" b_JS_coder 1 w_JS_coder (rmD (d + 0)) (some .byte) wd0 (pI post) 0 0 0 0 0 [(0, .ref (adK i))] [] u
  refine x_gets (v := .int 1) (fun A s h9 => (X A s h9).1.1) (cG tw_177) d_JS_coder_0 ?_
  refine x_if_eq (tgt := 13) d_JS_coder_3 rfl (fun hc => absurd hc (by decide)) (fun _ => ?_)
  refine x_aload_n (x := (adK i)) d_JS_coder_6 rfl ?_
  refine x_getO (v := .int 0) (fun A s h9 => ((X A s h9).2.1 i hi).2.2.1) (cG tw_1147) d_JS_coder_7 ?_
  refine x_goto (tgt := 14) d_JS_coder_10 rfl ?_
  refine x_zret rfl d_JS_coder_14 ⟨_, rfl, ?_⟩
  exact h
theorem cf_JS_coder (l : Launch) (D : va_G) (cs : Nat → ClassId) (Ev : (Nat → Prop) → State → Prop) (hE : xEok Ev) (adK adV : Nat → Nat) (fm : Option Nat) (X : xEv adK adV fm Ev) (i : Nat) (hi : i < 56) (d : Nat) : xC l D clX (tysX cs) Ev y_JS_coder w_JS_coder (rmD (d + 0)) wd0 [.ref (adK i)] () (pI (fun r u1 => r = 0 ∧ () = u1)) 0 0 := by
  refine c_JS_coder l D cs Ev hE adK adV fm X i hi d _ () ?_
  exact ⟨rfl, rfl⟩
def P_JS_isLatin1 (post : Int32 → Unit → Prop) (i : Nat) (u : Unit) : Prop := post 1 u
set_option maxHeartbeats 600000 in
set_option maxRecDepth 100000 in
theorem c_JS_isLatin1 (l : Launch) (D : va_G) (cs : Nat → ClassId) (Ev : (Nat → Prop) → State → Prop) (hE : xEok Ev) (adK adV : Nat → Nat) (fm : Option Nat) (X : xEv adK adV fm Ev) (i : Nat) (hi : i < 56) (d : Nat) (post : Int32 → Unit → Prop) (u : Unit) (h : P_JS_isLatin1 post i  u) : xC l D clX (tysX cs) Ev y_JS_isLatin1 w_JS_isLatin1 (rmD (d + 0)) wd0 [.ref (adK i)] u (pI post) 0 0 := by
  unfold P_JS_isLatin1 at h
  refine xC.of (cc := b_JS_isLatin1) (nL := 1) (ret := (some .boolean)) (by decide) rfl (Nat.le_of_ble_eq_true rfl) ?_
  show RR l D clX (tysX cs) Ev "java/lang/String" b_JS_isLatin1 1 w_JS_isLatin1 (rmD (d + 0)) (some .boolean) wd0 (pI post) 0 0 0 0 0 [(0, .ref (adK i))] [] u
  refine x_gets (v := .int 1) (fun A s h9 => (X A s h9).1.1) (cG tw_177) d_JS_isLatin1_0 ?_
  refine x_if_eq (tgt := 17) d_JS_isLatin1_3 rfl (fun hc => absurd hc (by decide)) (fun _ => ?_)
  refine x_aload_n (x := (adK i)) d_JS_isLatin1_6 rfl ?_
  refine x_getO (v := .int 0) (fun A s h9 => ((X A s h9).2.1 i hi).2.2.1) (cG tw_1147) d_JS_isLatin1_7 ?_
  refine x_if_ne (tgt := 17) d_JS_isLatin1_10 rfl (fun hc => absurd hc (by decide)) (fun _ => ?_)
  refine x_iconst (v := 1) d_JS_isLatin1_13 (by decide) ?_
  refine x_goto (tgt := 18) d_JS_isLatin1_14 rfl ?_
  refine x_zret rfl d_JS_isLatin1_18 ⟨_, rfl, ?_⟩
  exact h
theorem cf_JS_isLatin1 (l : Launch) (D : va_G) (cs : Nat → ClassId) (Ev : (Nat → Prop) → State → Prop) (hE : xEok Ev) (adK adV : Nat → Nat) (fm : Option Nat) (X : xEv adK adV fm Ev) (i : Nat) (hi : i < 56) (d : Nat) : xC l D clX (tysX cs) Ev y_JS_isLatin1 w_JS_isLatin1 (rmD (d + 0)) wd0 [.ref (adK i)] () (pI (fun r u1 => r = 1 ∧ () = u1)) 0 0 := by
  refine c_JS_isLatin1 l D cs Ev hE adK adV fm X i hi d _ () ?_
  exact ⟨rfl, rfl⟩
def P_JS_length (post : Int32 → Unit → Prop) (i : Nat) (u : Unit) : Prop := post ((nI (lenS i)) >>> ((0 : Int32) &&& 31)) u
set_option maxHeartbeats 600000 in
set_option maxRecDepth 100000 in
theorem c_JS_length (l : Launch) (D : va_G) (cs : Nat → ClassId) (Ev : (Nat → Prop) → State → Prop) (hE : xEok Ev) (adK adV : Nat → Nat) (fm : Option Nat) (X : xEv adK adV fm Ev) (i : Nat) (hi : i < 56) (d : Nat) (post : Int32 → Unit → Prop) (u : Unit) (h : P_JS_length post i  u) : xC l D clX (tysX cs) Ev y_JS_length w_JS_length (rmD (d + 1)) wd0 [.ref (adK i)] u (pI post) 0 0 := by
  unfold P_JS_length at h
  refine xC.of (cc := b_JS_length) (nL := 1) (ret := (some .int)) (by decide) rfl (Nat.le_of_ble_eq_true rfl) ?_
  show RR l D clX (tysX cs) Ev "java/lang/String" b_JS_length 1 w_JS_length (rmD (d + 1)) (some .int) wd0 (pI post) 0 0 0 0 0 [(0, .ref (adK i))] [] u
  refine x_aload_n (x := (adK i)) d_JS_length_0 rfl ?_
  refine x_getO (v := .ref (adV i)) (fun A s h9 => ((X A s h9).2.1 i hi).2.2.2.1) (cG tw_1148) d_JS_length_1 ?_
  refine x_tlen (fun A s h9 => ((X A s h9).2.1 i hi).2.2.2.2) d_JS_length_4 ?_
  refine x_aload_n (x := (adK i)) d_JS_length_5 rfl ?_
  refine x_callVO (st := [.int (nI (lenS i))]) k_JS_335 (fun A s h9 => ((X A s h9).2.1 i hi).2.1) x_id (cf_JS_coder l D cs Ev hE adK adV fm X i hi (d + 0)) hE (rmD_ok (by omega) (by decide)) rfl (Nat.le_of_ble_eq_true rfl) rfl d_JS_length_6 (x_rI (fun x u1 h9 => ?_))
  obtain ⟨rfl, rfl⟩ := h9
  refine x_ishr d_JS_length_9 ?_
  refine x_iret d_JS_length_10 ⟨_, rfl, ?_⟩
  exact h
theorem cf_JS_length (l : Launch) (D : va_G) (cs : Nat → ClassId) (Ev : (Nat → Prop) → State → Prop) (hE : xEok Ev) (adK adV : Nat → Nat) (fm : Option Nat) (X : xEv adK adV fm Ev) (i : Nat) (hi : i < 56) (d : Nat) : xC l D clX (tysX cs) Ev y_JS_length w_JS_length (rmD (d + 1)) wd0 [.ref (adK i)] () (pI (fun r u1 => r = nI (lenS i) ∧ () = u1)) 0 0 := by
  refine c_JS_length l D cs Ev hE adK adV fm X i hi d _ () ?_
  exact ⟨sb_shr0 _, rfl⟩
def P_JL_canEncode (post : Int32 → Unit → Prop) (a0 : Int32) (u : Unit) : Prop := ((a0 < 0 → post 0 u) ∧ (¬ a0 < 0 → ((255 < a0 → post 0 u) ∧ (¬ 255 < a0 → post 1 u))))
set_option maxHeartbeats 600000 in
set_option maxRecDepth 100000 in
theorem c_JL_canEncode (l : Launch) (D : va_G) (cs : Nat → ClassId) (Ev : (Nat → Prop) → State → Prop) (hE : xEok Ev) (adK adV : Nat → Nat) (fm : Option Nat) (X : xEv adK adV fm Ev) (d : Nat) (post : Int32 → Unit → Prop) (a0 : Int32) (u : Unit) (h : P_JL_canEncode post a0 u) : xC l D clX (tysX cs) Ev y_JL_canEncode w_JL_canEncode (rmD (d + 0)) wd0 [.int a0] u (pI post) 0 0 := by
  unfold P_JL_canEncode at h
  refine xC.of (cc := b_JL_canEncode) (nL := 1) (ret := (some .boolean)) (by decide) rfl (Nat.le_of_ble_eq_true rfl) ?_
  show RR l D clX (tysX cs) Ev "java/lang/StringLatin1" b_JL_canEncode 1 w_JL_canEncode (rmD (d + 0)) (some .boolean) wd0 (pI post) 0 0 0 0 0 [(0, .int a0)] [] u
  refine x_iload_n (x := a0) d_JL_canEncode_0 rfl ?_
  refine x_if_lt (tgt := 15) d_JL_canEncode_1 rfl (fun hc => ?_) (fun hc => ?_)
  · have h := h.1 hc
    refine x_iconst (v := 0) d_JL_canEncode_15 (by decide) ?_
    refine x_zret rfl d_JL_canEncode_16 ⟨_, rfl, ?_⟩
    exact h
  · have h := h.2 hc
    refine x_iload_n (x := a0) d_JL_canEncode_4 rfl ?_
    refine x_sipush (v := 255) d_JL_canEncode_5 (by decide) ?_
    refine x_icmp_gt (tgt := 15) d_JL_canEncode_8 rfl (fun hc => ?_) (fun hc => ?_)
    · have h := h.1 hc
      refine x_iconst (v := 0) d_JL_canEncode_15 (by decide) ?_
      refine x_zret rfl d_JL_canEncode_16 ⟨_, rfl, ?_⟩
      exact h
    · have h := h.2 hc
      refine x_iconst (v := 1) d_JL_canEncode_11 (by decide) ?_
      refine x_goto (tgt := 16) d_JL_canEncode_12 rfl ?_
      refine x_zret rfl d_JL_canEncode_16 ⟨_, rfl, ?_⟩
      exact h
def canE (c : Int32) : Int32 := if c < 0 then 0 else if 255 < c then 0 else 1
theorem cf_JL_canEncode (l : Launch) (D : va_G) (cs : Nat → ClassId) (Ev : (Nat → Prop) → State → Prop) (hE : xEok Ev) (adK adV : Nat → Nat) (fm : Option Nat) (X : xEv adK adV fm Ev) (d : Nat) (c : Int32) : xC l D clX (tysX cs) Ev y_JL_canEncode w_JL_canEncode (rmD (d + 0)) wd0 [.int c] () (pI (fun r u1 => r = canE c ∧ () = u1)) 0 0 := by
  refine c_JL_canEncode l D cs Ev hE adK adV fm X d _ c () ?_
  unfold P_JL_canEncode canE
  exact ⟨fun h => ⟨by rw [if_pos h], rfl⟩, fun h => ⟨fun h2 => ⟨by rw [if_neg h, if_pos h2], rfl⟩, fun h2 => ⟨by rw [if_neg h, if_neg h2], rfl⟩⟩⟩
def P_JP_checkIndex_r_9 (post : Int32 → Unit → Prop) (x0 : Int32) (x1 : Int32) (u : Unit) : Prop := False
set_option maxHeartbeats 600000 in
set_option maxRecDepth 100000 in
theorem w_JP_checkIndex_r_9 (l : Launch) (D : va_G) (cs : Nat → ClassId) (Ev : (Nat → Prop) → State → Prop) (hE : xEok Ev) (adK adV : Nat → Nat) (t9 : Nat) (X : xEv adK adV (some t9) Ev) (d : Nat) (post : Int32 → Unit → Prop) (x0 : Int32) (x1 : Int32) (u : Unit) (h : P_JP_checkIndex_r_9 post  x0 x1 u) : RR l D clX (tysX cs) Ev "jdk/internal/util/Preconditions" b_JP_checkIndex 3 w_JP_checkIndex (rmD (d + 0)) (some .int) wd0 (pI post) 0 0 0 0 9 [(0, .int x0), (1, .int x1), (2, .ref t9)] [] u := by
  unfold P_JP_checkIndex_r_9 at h
  refine x_aload_n (x := t9) d_JP_checkIndex_9 rfl ?_
  refine x_iload_n (x := x0) d_JP_checkIndex_10 rfl ?_
  refine x_iload_n (x := x1) d_JP_checkIndex_11 rfl ?_
  exact h.elim
def P_JP_checkIndex_r (post : Int32 → Unit → Prop) (a0 : Int32) (a1 : Int32) (u : Unit) : Prop := ((a0 < 0 → P_JP_checkIndex_r_9 post a0 a1 u) ∧ (¬ a0 < 0 → ((a0 < a1 → post a0 u) ∧ (¬ a0 < a1 → P_JP_checkIndex_r_9 post a0 a1 u))))
set_option maxHeartbeats 600000 in
set_option maxRecDepth 100000 in
theorem c_JP_checkIndex_r (l : Launch) (D : va_G) (cs : Nat → ClassId) (Ev : (Nat → Prop) → State → Prop) (hE : xEok Ev) (adK adV : Nat → Nat) (t9 : Nat) (X : xEv adK adV (some t9) Ev) (d : Nat) (post : Int32 → Unit → Prop) (a0 : Int32) (a1 : Int32) (u : Unit) (h : P_JP_checkIndex_r post a0 a1 u) : xC l D clX (tysX cs) Ev y_JP_checkIndex w_JP_checkIndex (rmD (d + 0)) wd0 [.int a0, .int a1, .ref t9] u (pI post) 0 0 := by
  unfold P_JP_checkIndex_r at h
  refine xC.of (cc := b_JP_checkIndex) (nL := 3) (ret := (some .int)) (by decide) rfl (Nat.le_of_ble_eq_true rfl) ?_
  show RR l D clX (tysX cs) Ev "jdk/internal/util/Preconditions" b_JP_checkIndex 3 w_JP_checkIndex (rmD (d + 0)) (some .int) wd0 (pI post) 0 0 0 0 0 [(0, .int a0), (1, .int a1), (2, .ref t9)] [] u
  refine x_iload_n (x := a0) d_JP_checkIndex_0 rfl ?_
  refine x_if_lt (tgt := 9) d_JP_checkIndex_1 rfl (fun hc => ?_) (fun hc => ?_)
  · have h := h.1 hc
    exact w_JP_checkIndex_r_9 l D cs Ev hE adK adV t9 X d post  a0 a1 u h
  · have h := h.2 hc
    refine x_iload_n (x := a0) d_JP_checkIndex_4 rfl ?_
    refine x_iload_n (x := a1) d_JP_checkIndex_5 rfl ?_
    refine x_icmp_lt (tgt := 16) d_JP_checkIndex_6 rfl (fun hc => ?_) (fun hc => ?_)
    · have h := h.1 hc
      refine x_iload_n (x := a0) d_JP_checkIndex_16 rfl ?_
      refine x_iret d_JP_checkIndex_17 ⟨_, rfl, ?_⟩
      exact h
    · have h := h.2 hc
      exact w_JP_checkIndex_r_9 l D cs Ev hE adK adV t9 X d post  a0 a1 u h
theorem cf_JP_checkIndex_r (l : Launch) (D : va_G) (cs : Nat → ClassId) (Ev : (Nat → Prop) → State → Prop) (hE : xEok Ev) (adK adV : Nat → Nat) (t9 : Nat) (X : xEv adK adV (some t9) Ev) (d : Nat) (k n : Int32) (h : ¬ k < 0 ∧ k < n) : xC l D clX (tysX cs) Ev y_JP_checkIndex w_JP_checkIndex (rmD (d + 0)) wd0 [.int k, .int n, .ref t9] () (pI (fun r u1 => r = k ∧ () = u1)) 0 0 := by
  refine c_JP_checkIndex_r l D cs Ev hE adK adV t9 X d _ k n () ?_
  exact ⟨fun h1 => absurd h1 h.1, fun _ => ⟨fun _ => ⟨rfl, rfl⟩, fun h2 => absurd h.2 h2⟩⟩
def P_JS_checkIndex_r (post : Unit → Prop) (a0 : Int32) (a1 : Int32) (u : Unit) : Prop := ((¬ a0 < 0 ∧ a0 < a1) ∧ post u)
set_option maxHeartbeats 600000 in
set_option maxRecDepth 100000 in
theorem c_JS_checkIndex_r (l : Launch) (D : va_G) (cs : Nat → ClassId) (Ev : (Nat → Prop) → State → Prop) (hE : xEok Ev) (adK adV : Nat → Nat) (t9 : Nat) (X : xEv adK adV (some t9) Ev) (d : Nat) (post : Unit → Prop) (a0 : Int32) (a1 : Int32) (u : Unit) (h : P_JS_checkIndex_r post a0 a1 u) : xC l D clX (tysX cs) Ev y_JS_checkIndex w_JS_checkIndex (rmD (d + 1)) wd0 [.int a0, .int a1] u (pV post) 0 0 := by
  unfold P_JS_checkIndex_r at h
  refine xC.of (cc := b_JS_checkIndex) (nL := 2) (ret := none) (by decide) rfl (Nat.le_of_ble_eq_true rfl) ?_
  show RR l D clX (tysX cs) Ev "java/lang/String" b_JS_checkIndex 2 w_JS_checkIndex (rmD (d + 1)) none wd0 (pV post) 0 0 0 0 0 [(0, .int a0), (1, .int a1)] [] u
  refine x_iload_n (x := a0) d_JS_checkIndex_0 rfl ?_
  refine x_iload_n (x := a1) d_JS_checkIndex_1 rfl ?_
  refine x_gets (v := .ref t9) (fun A s h9 => (X A s h9).1.2) (cG tw_220) d_JS_checkIndex_2 ?_
  refine x_callS (st := []) k_JS_1059 x_id (cf_JP_checkIndex_r l D cs Ev hE adK adV t9 X (d + 0) a0 a1 h.1) hE (rmD_ok (by omega) (by decide)) rfl (Nat.le_of_ble_eq_true rfl) rfl d_JS_checkIndex_5 (x_rI (fun x u1 h9 => ?_))
  obtain ⟨rfl, rfl⟩ := h9
  have h := h.2
  refine x_pop d_JS_checkIndex_8 rfl ?_
  refine x_vret d_JS_checkIndex_9 ⟨rfl, ?_⟩
  exact h
def P_JP_checkIndex_n_9 (post : Int32 → Unit → Prop) (x0 : Int32) (x1 : Int32) (u : Unit) : Prop := False
set_option maxHeartbeats 600000 in
set_option maxRecDepth 100000 in
theorem w_JP_checkIndex_n_9 (l : Launch) (D : va_G) (cs : Nat → ClassId) (Ev : (Nat → Prop) → State → Prop) (hE : xEok Ev) (adK adV : Nat → Nat) (X : xEv adK adV none Ev) (d : Nat) (post : Int32 → Unit → Prop) (x0 : Int32) (x1 : Int32) (u : Unit) (h : P_JP_checkIndex_n_9 post  x0 x1 u) : RR l D clX (tysX cs) Ev "jdk/internal/util/Preconditions" b_JP_checkIndex 3 w_JP_checkIndex (rmD (d + 0)) (some .int) wd0 (pI post) 0 0 0 0 9 [(0, .int x0), (1, .int x1), (2, .null)] [] u := by
  unfold P_JP_checkIndex_n_9 at h
  refine x_aload_nN d_JP_checkIndex_9 rfl ?_
  refine x_iload_n (x := x0) d_JP_checkIndex_10 rfl ?_
  refine x_iload_n (x := x1) d_JP_checkIndex_11 rfl ?_
  exact h.elim
def P_JP_checkIndex_n (post : Int32 → Unit → Prop) (a0 : Int32) (a1 : Int32) (u : Unit) : Prop := ((a0 < 0 → P_JP_checkIndex_n_9 post a0 a1 u) ∧ (¬ a0 < 0 → ((a0 < a1 → post a0 u) ∧ (¬ a0 < a1 → P_JP_checkIndex_n_9 post a0 a1 u))))
set_option maxHeartbeats 600000 in
set_option maxRecDepth 100000 in
theorem c_JP_checkIndex_n (l : Launch) (D : va_G) (cs : Nat → ClassId) (Ev : (Nat → Prop) → State → Prop) (hE : xEok Ev) (adK adV : Nat → Nat) (X : xEv adK adV none Ev) (d : Nat) (post : Int32 → Unit → Prop) (a0 : Int32) (a1 : Int32) (u : Unit) (h : P_JP_checkIndex_n post a0 a1 u) : xC l D clX (tysX cs) Ev y_JP_checkIndex w_JP_checkIndex (rmD (d + 0)) wd0 [.int a0, .int a1, .null] u (pI post) 0 0 := by
  unfold P_JP_checkIndex_n at h
  refine xC.of (cc := b_JP_checkIndex) (nL := 3) (ret := (some .int)) (by decide) rfl (Nat.le_of_ble_eq_true rfl) ?_
  show RR l D clX (tysX cs) Ev "jdk/internal/util/Preconditions" b_JP_checkIndex 3 w_JP_checkIndex (rmD (d + 0)) (some .int) wd0 (pI post) 0 0 0 0 0 [(0, .int a0), (1, .int a1), (2, .null)] [] u
  refine x_iload_n (x := a0) d_JP_checkIndex_0 rfl ?_
  refine x_if_lt (tgt := 9) d_JP_checkIndex_1 rfl (fun hc => ?_) (fun hc => ?_)
  · have h := h.1 hc
    exact w_JP_checkIndex_n_9 l D cs Ev hE adK adV X d post  a0 a1 u h
  · have h := h.2 hc
    refine x_iload_n (x := a0) d_JP_checkIndex_4 rfl ?_
    refine x_iload_n (x := a1) d_JP_checkIndex_5 rfl ?_
    refine x_icmp_lt (tgt := 16) d_JP_checkIndex_6 rfl (fun hc => ?_) (fun hc => ?_)
    · have h := h.1 hc
      refine x_iload_n (x := a0) d_JP_checkIndex_16 rfl ?_
      refine x_iret d_JP_checkIndex_17 ⟨_, rfl, ?_⟩
      exact h
    · have h := h.2 hc
      exact w_JP_checkIndex_n_9 l D cs Ev hE adK adV X d post  a0 a1 u h
theorem cf_JP_checkIndex_n (l : Launch) (D : va_G) (cs : Nat → ClassId) (Ev : (Nat → Prop) → State → Prop) (hE : xEok Ev) (adK adV : Nat → Nat) (X : xEv adK adV none Ev) (d : Nat) (k n : Int32) (h : ¬ k < 0 ∧ k < n) : xC l D clX (tysX cs) Ev y_JP_checkIndex w_JP_checkIndex (rmD (d + 0)) wd0 [.int k, .int n, .null] () (pI (fun r u1 => r = k ∧ () = u1)) 0 0 := by
  refine c_JP_checkIndex_n l D cs Ev hE adK adV X d _ k n () ?_
  exact ⟨fun h1 => absurd h1 h.1, fun _ => ⟨fun _ => ⟨rfl, rfl⟩, fun h2 => absurd h.2 h2⟩⟩
def P_JS_checkIndex_n (post : Unit → Prop) (a0 : Int32) (a1 : Int32) (u : Unit) : Prop := ((¬ a0 < 0 ∧ a0 < a1) ∧ post u)
set_option maxHeartbeats 600000 in
set_option maxRecDepth 100000 in
theorem c_JS_checkIndex_n (l : Launch) (D : va_G) (cs : Nat → ClassId) (Ev : (Nat → Prop) → State → Prop) (hE : xEok Ev) (adK adV : Nat → Nat) (X : xEv adK adV none Ev) (d : Nat) (post : Unit → Prop) (a0 : Int32) (a1 : Int32) (u : Unit) (h : P_JS_checkIndex_n post a0 a1 u) : xC l D clX (tysX cs) Ev y_JS_checkIndex w_JS_checkIndex (rmD (d + 1)) wd0 [.int a0, .int a1] u (pV post) 0 0 := by
  unfold P_JS_checkIndex_n at h
  refine xC.of (cc := b_JS_checkIndex) (nL := 2) (ret := none) (by decide) rfl (Nat.le_of_ble_eq_true rfl) ?_
  show RR l D clX (tysX cs) Ev "java/lang/String" b_JS_checkIndex 2 w_JS_checkIndex (rmD (d + 1)) none wd0 (pV post) 0 0 0 0 0 [(0, .int a0), (1, .int a1)] [] u
  refine x_iload_n (x := a0) d_JS_checkIndex_0 rfl ?_
  refine x_iload_n (x := a1) d_JS_checkIndex_1 rfl ?_
  refine x_gets (v := .null) (fun A s h9 => (X A s h9).1.2) (cG tw_220) d_JS_checkIndex_2 ?_
  refine x_callS (st := []) k_JS_1059 x_id (cf_JP_checkIndex_n l D cs Ev hE adK adV X (d + 0) a0 a1 h.1) hE (rmD_ok (by omega) (by decide)) rfl (Nat.le_of_ble_eq_true rfl) rfl d_JS_checkIndex_5 (x_rI (fun x u1 h9 => ?_))
  obtain ⟨rfl, rfl⟩ := h9
  have h := h.2
  refine x_pop d_JS_checkIndex_8 rfl ?_
  refine x_vret d_JS_checkIndex_9 ⟨rfl, ?_⟩
  exact h
theorem cf_JS_checkIndex (l : Launch) (D : va_G) (cs : Nat → ClassId) (Ev : (Nat → Prop) → State → Prop) (hE : xEok Ev) (adK adV : Nat → Nat) (fm : Option Nat) (X : xEv adK adV fm Ev) (d : Nat) (k n : Int32) (h : ¬ k < 0 ∧ k < n) : xC l D clX (tysX cs) Ev y_JS_checkIndex w_JS_checkIndex (rmD (d + 1)) wd0 [.int k, .int n] () (pV (fun u1 => () = u1)) 0 0 := by
  cases fm with
  | none => exact c_JS_checkIndex_n l D cs Ev hE adK adV X d _ k n () ⟨h, rfl⟩
  | some t9 => exact c_JS_checkIndex_r l D cs Ev hE adK adV t9 X d _ k n () ⟨h, rfl⟩
def P_JL_charAt (post : Int32 → Unit → Prop) (i : Nat) (a1 : Int32) (u : Unit) : Prop := ((¬ a1 < 0 ∧ a1 < (nI (lenS i))) ∧ (vp_in a1 (lenS i) ∧ (narrow .char (.int ((((bytS i a1.toNatClampNeg) &&& (255 : Int32)).toUInt32 % 65536).toInt32)) = .int ((((bytS i a1.toNatClampNeg) &&& (255 : Int32)).toUInt32 % 65536).toInt32) ∧ post ((((bytS i a1.toNatClampNeg) &&& (255 : Int32)).toUInt32 % 65536).toInt32) u)))
set_option maxHeartbeats 600000 in
set_option maxRecDepth 100000 in
theorem c_JL_charAt (l : Launch) (D : va_G) (cs : Nat → ClassId) (Ev : (Nat → Prop) → State → Prop) (hE : xEok Ev) (adK adV : Nat → Nat) (fm : Option Nat) (X : xEv adK adV fm Ev) (i : Nat) (hi : i < 56) (d : Nat) (post : Int32 → Unit → Prop) (a1 : Int32) (u : Unit) (h : P_JL_charAt post i a1 u) : xC l D clX (tysX cs) Ev y_JL_charAt w_JL_charAt (rmD (d + 2)) wd0 [.ref (adV i), .int a1] u (pI post) 0 0 := by
  unfold P_JL_charAt at h
  refine xC.of (cc := b_JL_charAt) (nL := 2) (ret := (some .char)) (by decide) rfl (Nat.le_of_ble_eq_true rfl) ?_
  show RR l D clX (tysX cs) Ev "java/lang/StringLatin1" b_JL_charAt 2 w_JL_charAt (rmD (d + 2)) (some .char) wd0 (pI post) 0 0 0 0 0 [(0, .ref (adV i)), (1, .int a1)] [] u
  refine x_iload_n (x := a1) d_JL_charAt_0 rfl ?_
  refine x_aload_n (x := (adV i)) d_JL_charAt_1 rfl ?_
  refine x_tlen (fun A s h9 => ((X A s h9).2.1 i hi).2.2.2.2) d_JL_charAt_2 ?_
  refine x_callS (st := []) k_JL_9 x_id (cf_JS_checkIndex l D cs Ev hE adK adV fm X (d + 0) a1 (nI (lenS i)) h.1) hE (rmD_ok (by omega) (by decide)) rfl (Nat.le_of_ble_eq_true rfl) rfl d_JL_charAt_3 (x_rV (fun u1 h9 => ?_))
  subst h9
  have h := h.2
  refine x_aload_n (x := (adV i)) d_JL_charAt_6 rfl ?_
  refine x_iload_n (x := a1) d_JL_charAt_7 rfl ?_
  refine x_tb (f := bytS i) (fun A s h9 => ((X A s h9).2.1 i hi).2.2.2.2) h.1 d_JL_charAt_8 ?_
  have h := h.2
  refine x_sipush (v := 255) d_JL_charAt_9 (by decide) ?_
  refine x_iand d_JL_charAt_12 ?_
  refine x_i2c d_JL_charAt_13 ?_
  refine x_zret h.1 d_JL_charAt_14 ⟨_, rfl, ?_⟩
  exact h.2
def chS (i k : Nat) : Int32 := ((bytS i k &&& 255).toUInt32 % 65536).toInt32
theorem cf_JL_charAt (l : Launch) (D : va_G) (cs : Nat → ClassId) (Ev : (Nat → Prop) → State → Prop) (hE : xEok Ev) (adK adV : Nat → Nat) (fm : Option Nat) (X : xEv adK adV fm Ev) (i : Nat) (hi : i < 56) (d : Nat) (k : Int32) (h : vp_in k (lenS i)) : xC l D clX (tysX cs) Ev y_JL_charAt w_JL_charAt (rmD (d + 2)) wd0 [.ref (adV i), .int k] () (pI (fun r u1 => r = chS i k.toNatClampNeg ∧ () = u1)) 0 0 := by
  have hl : lenS i < 2 ^ 31 := by have := lenS_lt i; omega
  obtain ⟨j, hj, rfl⟩ := vp_in_of h hl
  refine c_JL_charAt l D cs Ev hE adK adV fm X i hi d _ (nI j) () ?_
  exact ⟨⟨nI_pos (by omega), nI_lt hj hl⟩, h, pk_nc _, rfl, rfl⟩
def P_JS_charAt (post : Int32 → Unit → Prop) (i : Nat) (a0 : Int32) (u : Unit) : Prop := (vp_in a0 (lenS i) ∧ (narrow .char (.int (chS i a0.toNatClampNeg)) = .int (chS i a0.toNatClampNeg) ∧ post (chS i a0.toNatClampNeg) u))
set_option maxHeartbeats 600000 in
set_option maxRecDepth 100000 in
theorem c_JS_charAt (l : Launch) (D : va_G) (cs : Nat → ClassId) (Ev : (Nat → Prop) → State → Prop) (hE : xEok Ev) (adK adV : Nat → Nat) (fm : Option Nat) (X : xEv adK adV fm Ev) (i : Nat) (hi : i < 56) (d : Nat) (post : Int32 → Unit → Prop) (a0 : Int32) (u : Unit) (h : P_JS_charAt post i a0 u) : xC l D clX (tysX cs) Ev y_JS_charAt w_JS_charAt (rmD (d + 3)) wd0 [.ref (adK i), .int a0] u (pI post) 0 0 := by
  unfold P_JS_charAt at h
  refine xC.of (cc := b_JS_charAt) (nL := 2) (ret := (some .char)) (by decide) rfl (Nat.le_of_ble_eq_true rfl) ?_
  show RR l D clX (tysX cs) Ev "java/lang/String" b_JS_charAt 2 w_JS_charAt (rmD (d + 3)) (some .char) wd0 (pI post) 0 0 0 0 0 [(0, .ref (adK i)), (1, .int a0)] [] u
  refine x_aload_n (x := (adK i)) d_JS_charAt_0 rfl ?_
  refine x_callVO (st := []) k_JS_492 (fun A s h9 => ((X A s h9).2.1 i hi).2.1) x_id (cf_JS_isLatin1 l D cs Ev hE adK adV fm X i hi (d + 2)) hE (rmD_ok (by omega) (by decide)) rfl (Nat.le_of_ble_eq_true rfl) rfl d_JS_charAt_1 (x_rI (fun x u1 h9 => ?_))
  obtain ⟨rfl, rfl⟩ := h9
  refine x_if_eq (tgt := 16) d_JS_charAt_4 rfl (fun hc => absurd hc (by decide)) (fun _ => ?_)
  refine x_aload_n (x := (adK i)) d_JS_charAt_7 rfl ?_
  refine x_getO (v := .ref (adV i)) (fun A s h9 => ((X A s h9).2.1 i hi).2.2.2.1) (cG tw_1148) d_JS_charAt_8 ?_
  refine x_iload_n (x := a0) d_JS_charAt_11 rfl ?_
  refine x_callS (st := []) k_JS_495 x_id (cf_JL_charAt l D cs Ev hE adK adV fm X i hi (d + 0) a0 h.1) hE (rmD_ok (by omega) (by decide)) rfl (Nat.le_of_ble_eq_true rfl) rfl d_JS_charAt_12 (x_rI (fun x u1 h9 => ?_))
  obtain ⟨rfl, rfl⟩ := h9
  have h := h.2
  refine x_zret h.1 d_JS_charAt_15 ⟨_, rfl, ?_⟩
  exact h.2
theorem cf_JS_charAt (l : Launch) (D : va_G) (cs : Nat → ClassId) (Ev : (Nat → Prop) → State → Prop) (hE : xEok Ev) (adK adV : Nat → Nat) (fm : Option Nat) (X : xEv adK adV fm Ev) (i : Nat) (hi : i < 56) (d : Nat) (k : Int32) (h : vp_in k (lenS i)) : xC l D clX (tysX cs) Ev y_JS_charAt w_JS_charAt (rmD (d + 3)) wd0 [.ref (adK i), .int k] () (pI (fun r u1 => r = chS i k.toNatClampNeg ∧ () = u1)) 0 0 := by
  refine c_JS_charAt l D cs Ev hE adK adV fm X i hi d _ k () ?_
  exact ⟨h, pk_nc _, rfl, rfl⟩
def P_JL_indexOfChar_7 (post : Int32 → Unit → Prop) (i : Nat) : Nat → Int32 → Int32 → Int32 → Unit → Prop
  | 0, _, _, _, _ => False
  | f + 1, x3, x4, x5, u => ((x3 ≤ x5 → post (-1) u) ∧ (¬ x3 ≤ x5 → (vp_in x5 (lenS i) ∧ ((¬ (bytS i x5.toNatClampNeg) = x4 → P_JL_indexOfChar_7 post i f x3 x4 (x5 + 1) u) ∧ ((bytS i x5.toNatClampNeg) = x4 → post x5 u)))))
set_option maxHeartbeats 600000 in
set_option maxRecDepth 100000 in
theorem w_JL_indexOfChar_7 (l : Launch) (D : va_G) (cs : Nat → ClassId) (Ev : (Nat → Prop) → State → Prop) (hE : xEok Ev) (adK adV : Nat → Nat) (fm : Option Nat) (X : xEv adK adV fm Ev) (i : Nat) (hi : i < 56) (d : Nat) (post : Int32 → Unit → Prop) : ∀ (f : Nat) (x3 : Int32) (x4 : Int32) (x5 : Int32) (u : Unit), P_JL_indexOfChar_7 post i  f x3 x4 x5 u → RR l D clX (tysX cs) Ev "java/lang/StringLatin1" b_JL_indexOfChar 6 w_JL_indexOfChar (rmD (d + 0)) (some .int) wd0 (pI post) 0 0 0 0 7 [(0, .ref (adV i)), (3, .int x3), (4, .int x4), (5, .int x5)] [] u := by
  intro f
  induction f with
  | zero => intro x3 x4 x5 u h; exact h.elim
  | succ f ih =>
    intro x3 x4 x5 u h
    unfold P_JL_indexOfChar_7 at h
    refine x_iload (x := x5) d_JL_indexOfChar_7 rfl ?_
    refine x_iload_n (x := x3) d_JL_indexOfChar_9 rfl ?_
    refine x_icmp_ge (tgt := 31) d_JL_indexOfChar_10 rfl (fun hc => ?_) (fun hc => ?_)
    · have h := h.1 hc
      refine x_iconst (v := (-1)) d_JL_indexOfChar_31 (by decide) ?_
      refine x_iret d_JL_indexOfChar_32 ⟨_, rfl, ?_⟩
      exact h
    · have h := h.2 hc
      refine x_aload_n (x := (adV i)) d_JL_indexOfChar_13 rfl ?_
      refine x_iload (x := x5) d_JL_indexOfChar_14 rfl ?_
      refine x_tb (f := bytS i) (fun A s h9 => ((X A s h9).2.1 i hi).2.2.2.2) h.1 d_JL_indexOfChar_16 ?_
      have h := h.2
      refine x_iload (x := x4) d_JL_indexOfChar_17 rfl ?_
      refine x_icmp_ne (tgt := 25) d_JL_indexOfChar_19 rfl (fun hc => ?_) (fun hc => ?_)
      · have h := h.1 hc
        refine x_iinc (v := x5 + 1) (lv' := [(5, .int (x5 + 1)), (0, .ref (adV i)), (3, .int x3), (4, .int x4)]) d_JL_indexOfChar_25 rfl rfl (by decide) rfl ?_
        refine x_goto (tgt := 7) d_JL_indexOfChar_28 rfl ?_
        refine x_sub [1, 2, 3, 0] rfl ?_
        exact ih x3 x4 (x5 + 1) u h
      · have h := h.2 hc
        refine x_iload (x := x5) d_JL_indexOfChar_22 rfl ?_
        refine x_iret d_JL_indexOfChar_24 ⟨_, rfl, ?_⟩
        exact h
def P_JL_indexOfChar (post : Int32 → Unit → Prop) (i : Nat) (a1 : Int32) (a2 : Int32) (a3 : Int32) (u : Unit) : Prop := (∀ v1, v1 = a1.toInt8.toInt32 → (∃ g, P_JL_indexOfChar_7 post i g a3 v1 a2 u))
set_option maxHeartbeats 600000 in
set_option maxRecDepth 100000 in
theorem c_JL_indexOfChar (l : Launch) (D : va_G) (cs : Nat → ClassId) (Ev : (Nat → Prop) → State → Prop) (hE : xEok Ev) (adK adV : Nat → Nat) (fm : Option Nat) (X : xEv adK adV fm Ev) (i : Nat) (hi : i < 56) (d : Nat) (post : Int32 → Unit → Prop) (a1 : Int32) (a2 : Int32) (a3 : Int32) (u : Unit) (h : P_JL_indexOfChar post i a1 a2 a3 u) : xC l D clX (tysX cs) Ev y_JL_indexOfChar w_JL_indexOfChar (rmD (d + 0)) wd0 [.ref (adV i), .int a1, .int a2, .int a3] u (pI post) 0 0 := by
  unfold P_JL_indexOfChar at h
  refine xC.of (cc := b_JL_indexOfChar) (nL := 6) (ret := (some .int)) (by decide) rfl (Nat.le_of_ble_eq_true rfl) ?_
  show RR l D clX (tysX cs) Ev "java/lang/StringLatin1" b_JL_indexOfChar 6 w_JL_indexOfChar (rmD (d + 0)) (some .int) wd0 (pI post) 0 0 0 0 0 [(0, .ref (adV i)), (1, .int a1), (2, .int a2), (3, .int a3)] [] u
  refine x_iload_n (x := a1) d_JL_indexOfChar_0 rfl ?_
  refine x_i2b d_JL_indexOfChar_1 ?_
  refine x_topI (fun v1 ev1 => ?_)
  have h := h v1 ev1
  refine x_istore (lv' := [(4, .int v1), (0, .ref (adV i)), (1, .int a1), (2, .int a2), (3, .int a3)]) d_JL_indexOfChar_2 (by decide) rfl ?_
  refine x_iload_n (x := a2) d_JL_indexOfChar_4 rfl ?_
  refine x_istore (lv' := [(5, .int a2), (4, .int v1), (0, .ref (adV i)), (1, .int a1), (2, .int a2), (3, .int a3)]) d_JL_indexOfChar_5 (by decide) rfl ?_
  refine x_sub [2, 5, 1, 0] rfl ?_
  obtain ⟨f9, h⟩ := h
  exact w_JL_indexOfChar_7 l D cs Ev hE adK adV fm X i hi d post  f9 a3 v1 a2 u h
def P_JL_indexOf (post : Int32 → Unit → Prop) (i : Nat) (a1 : Int32) (a2 : Int32) (a3 : Int32) (u : Unit) : Prop := ((¬ (canE a1) = 0 → (∀ v1, v1 = (if a2 < (0 : Int32) then (0 : Int32) else a2) → (∀ v2, v2 = (if (nI (lenS i)) < a3 then (nI (lenS i)) else a3) → ((v1 < v2 → P_JL_indexOfChar (fun r4 u3 => post r4 u3) i a1 v1 v2 ()) ∧ (¬ v1 < v2 → post (-1) u))))) ∧ ((canE a1) = 0 → post (-1) u))
set_option maxHeartbeats 600000 in
set_option maxRecDepth 100000 in
theorem c_JL_indexOf (l : Launch) (D : va_G) (cs : Nat → ClassId) (Ev : (Nat → Prop) → State → Prop) (hE : xEok Ev) (adK adV : Nat → Nat) (fm : Option Nat) (X : xEv adK adV fm Ev) (i : Nat) (hi : i < 56) (d : Nat) (post : Int32 → Unit → Prop) (a1 : Int32) (a2 : Int32) (a3 : Int32) (u : Unit) (h : P_JL_indexOf post i a1 a2 a3 u) : xC l D clX (tysX cs) Ev y_JL_indexOf w_JL_indexOf (rmD (d + 1)) wd0 [.ref (adV i), .int a1, .int a2, .int a3] u (pI post) 0 0 := by
  unfold P_JL_indexOf at h
  refine xC.of (cc := b_JL_indexOf) (nL := 4) (ret := (some .int)) (by decide) rfl (Nat.le_of_ble_eq_true rfl) ?_
  show RR l D clX (tysX cs) Ev "java/lang/StringLatin1" b_JL_indexOf 4 w_JL_indexOf (rmD (d + 1)) (some .int) wd0 (pI post) 0 0 0 0 0 [(0, .ref (adV i)), (1, .int a1), (2, .int a2), (3, .int a3)] [] u
  refine x_iload_n (x := a1) d_JL_indexOf_0 rfl ?_
  refine x_callS (st := []) k_JL_88 x_id (cf_JL_canEncode l D cs Ev hE adK adV fm X (d + 0) a1) hE (rmD_ok (by omega) (by decide)) rfl (Nat.le_of_ble_eq_true rfl) rfl d_JL_indexOf_1 (x_rI (fun x u1 h9 => ?_))
  obtain ⟨rfl, rfl⟩ := h9
  refine x_if_ne (tgt := 9) d_JL_indexOf_4 rfl (fun hc => ?_) (fun hc => ?_)
  · have h := h.1 hc
    refine x_iload_n (x := a2) d_JL_indexOf_9 rfl ?_
    refine x_iconst (v := 0) d_JL_indexOf_10 (by decide) ?_
    refine x_mmax (cG tw_193) (cG tw_194) (cG tw_10) (cG tw_195) (by show 1 ≤ d + 1; omega) (by show _ ≤ 64 * (d + 1); refine Nat.le_trans (m := 64) (Nat.le_of_ble_eq_true rfl) (by omega)) (Nat.le_refl _) (Nat.le_refl _) d_JL_indexOf_11 ?_
    refine x_topI (fun v1 ev1 => ?_)
    have h := h v1 ev1
    refine x_istore_n (lv' := [(2, .int v1), (0, .ref (adV i)), (1, .int a1), (3, .int a3)]) d_JL_indexOf_14 (by decide) rfl ?_
    refine x_iload_n (x := a3) d_JL_indexOf_15 rfl ?_
    refine x_aload_n (x := (adV i)) d_JL_indexOf_16 rfl ?_
    refine x_tlen (fun A s h9 => ((X A s h9).2.1 i hi).2.2.2.2) d_JL_indexOf_17 ?_
    refine x_mmin (cG tw_196) (cG tw_197) (cG tw_10) (cG tw_198) (by show 1 ≤ d + 1; omega) (by show _ ≤ 64 * (d + 1); refine Nat.le_trans (m := 64) (Nat.le_of_ble_eq_true rfl) (by omega)) (Nat.le_refl _) (Nat.le_refl _) d_JL_indexOf_18 ?_
    refine x_topI (fun v2 ev2 => ?_)
    have h := h v2 ev2
    refine x_istore_n (lv' := [(3, .int v2), (2, .int v1), (0, .ref (adV i)), (1, .int a1)]) d_JL_indexOf_21 (by decide) rfl ?_
    refine x_iload_n (x := v1) d_JL_indexOf_22 rfl ?_
    refine x_iload_n (x := v2) d_JL_indexOf_23 rfl ?_
    refine x_icmp_lt (tgt := 29) d_JL_indexOf_24 rfl (fun hc => ?_) (fun hc => ?_)
    · have h := h.1 hc
      refine x_aload_n (x := (adV i)) d_JL_indexOf_29 rfl ?_
      refine x_iload_n (x := a1) d_JL_indexOf_30 rfl ?_
      refine x_iload_n (x := v1) d_JL_indexOf_31 rfl ?_
      refine x_iload_n (x := v2) d_JL_indexOf_32 rfl ?_
      refine x_callS (st := []) k_JL_95 x_id (c_JL_indexOfChar l D cs Ev hE adK adV fm X i hi (d + 0) _ a1 v1 v2 () h) hE (rmD_ok (by omega) (by decide)) rfl (Nat.le_of_ble_eq_true rfl) rfl d_JL_indexOf_33 (x_rI (fun r4 u3 h => ?_))
      refine x_iret d_JL_indexOf_36 ⟨_, rfl, ?_⟩
      exact h
    · have h := h.2 hc
      refine x_iconst (v := (-1)) d_JL_indexOf_27 (by decide) ?_
      refine x_iret d_JL_indexOf_28 ⟨_, rfl, ?_⟩
      exact h
  · have h := h.2 hc
    refine x_iconst (v := (-1)) d_JL_indexOf_7 (by decide) ?_
    refine x_iret d_JL_indexOf_8 ⟨_, rfl, ?_⟩
    exact h
def P_JS_indexOf1 (post : Int32 → Unit → Prop) (i : Nat) (a0 : Int32) (a1 : Int32) (u : Unit) : Prop := P_JL_indexOf (fun r2 u1 => post r2 u1) i a0 a1 (nI (lenS i)) ()
set_option maxHeartbeats 600000 in
set_option maxRecDepth 100000 in
theorem c_JS_indexOf1 (l : Launch) (D : va_G) (cs : Nat → ClassId) (Ev : (Nat → Prop) → State → Prop) (hE : xEok Ev) (adK adV : Nat → Nat) (fm : Option Nat) (X : xEv adK adV fm Ev) (i : Nat) (hi : i < 56) (d : Nat) (post : Int32 → Unit → Prop) (a0 : Int32) (a1 : Int32) (u : Unit) (h : P_JS_indexOf1 post i a0 a1 u) : xC l D clX (tysX cs) Ev y_JS_indexOf1 w_JS_indexOf1 (rmD (d + 2)) wd0 [.ref (adK i), .int a0, .int a1] u (pI post) 0 0 := by
  unfold P_JS_indexOf1 at h
  refine xC.of (cc := b_JS_indexOf1) (nL := 3) (ret := (some .int)) (by decide) rfl (Nat.le_of_ble_eq_true rfl) ?_
  show RR l D clX (tysX cs) Ev "java/lang/String" b_JS_indexOf1 3 w_JS_indexOf1 (rmD (d + 2)) (some .int) wd0 (pI post) 0 0 0 0 0 [(0, .ref (adK i)), (1, .int a0), (2, .int a1)] [] u
  refine x_aload_n (x := (adK i)) d_JS_indexOf1_0 rfl ?_
  refine x_callVO (st := []) k_JS_492 (fun A s h9 => ((X A s h9).2.1 i hi).2.1) x_id (cf_JS_isLatin1 l D cs Ev hE adK adV fm X i hi (d + 1)) hE (rmD_ok (by omega) (by decide)) rfl (Nat.le_of_ble_eq_true rfl) rfl d_JS_indexOf1_1 (x_rI (fun x u1 h9 => ?_))
  obtain ⟨rfl, rfl⟩ := h9
  refine x_if_eq (tgt := 23) d_JS_indexOf1_4 rfl (fun hc => absurd hc (by decide)) (fun _ => ?_)
  refine x_aload_n (x := (adK i)) d_JS_indexOf1_7 rfl ?_
  refine x_getO (v := .ref (adV i)) (fun A s h9 => ((X A s h9).2.1 i hi).2.2.2.1) (cG tw_1148) d_JS_indexOf1_8 ?_
  refine x_iload_n (x := a0) d_JS_indexOf1_11 rfl ?_
  refine x_iload_n (x := a1) d_JS_indexOf1_12 rfl ?_
  refine x_aload_n (x := (adK i)) d_JS_indexOf1_13 rfl ?_
  refine x_callVO (st := [.int a1, .int a0, .ref (adV i)]) k_JS_505 (fun A s h9 => ((X A s h9).2.1 i hi).2.1) x_id (cf_JS_length l D cs Ev hE adK adV fm X i hi (d + 0)) hE (rmD_ok (by omega) (by decide)) rfl (Nat.le_of_ble_eq_true rfl) rfl d_JS_indexOf1_14 (x_rI (fun x u1 h9 => ?_))
  obtain ⟨rfl, rfl⟩ := h9
  refine x_callS (st := []) k_JS_637 x_id (c_JL_indexOf l D cs Ev hE adK adV fm X i hi (d + 0) _ a0 a1 (nI (lenS i)) () h) hE (rmD_ok (by omega) (by decide)) rfl (Nat.le_of_ble_eq_true rfl) rfl d_JS_indexOf1_17 (x_rI (fun r2 u1 h => ?_))
  refine x_goto (tgt := 36) d_JS_indexOf1_20 rfl ?_
  refine x_iret d_JS_indexOf1_36 ⟨_, rfl, ?_⟩
  exact h
def P_JS_indexOf0 (post : Int32 → Unit → Prop) (i : Nat) (a0 : Int32) (u : Unit) : Prop := P_JS_indexOf1 (fun r2 u1 => post r2 u1) i a0 (0 : Int32) ()
set_option maxHeartbeats 600000 in
set_option maxRecDepth 100000 in
theorem c_JS_indexOf0 (l : Launch) (D : va_G) (cs : Nat → ClassId) (Ev : (Nat → Prop) → State → Prop) (hE : xEok Ev) (adK adV : Nat → Nat) (fm : Option Nat) (X : xEv adK adV fm Ev) (i : Nat) (hi : i < 56) (d : Nat) (post : Int32 → Unit → Prop) (a0 : Int32) (u : Unit) (h : P_JS_indexOf0 post i a0 u) : xC l D clX (tysX cs) Ev y_JS_indexOf0 w_JS_indexOf0 (rmD (d + 3)) wd0 [.ref (adK i), .int a0] u (pI post) 0 0 := by
  unfold P_JS_indexOf0 at h
  refine xC.of (cc := b_JS_indexOf0) (nL := 2) (ret := (some .int)) (by decide) rfl (Nat.le_of_ble_eq_true rfl) ?_
  show RR l D clX (tysX cs) Ev "java/lang/String" b_JS_indexOf0 2 w_JS_indexOf0 (rmD (d + 3)) (some .int) wd0 (pI post) 0 0 0 0 0 [(0, .ref (adK i)), (1, .int a0)] [] u
  refine x_aload_n (x := (adK i)) d_JS_indexOf0_0 rfl ?_
  refine x_iload_n (x := a0) d_JS_indexOf0_1 rfl ?_
  refine x_iconst (v := 0) d_JS_indexOf0_2 (by decide) ?_
  refine x_callVO (st := []) k_JS_633 (fun A s h9 => ((X A s h9).2.1 i hi).2.1) x_id (c_JS_indexOf1 l D cs Ev hE adK adV fm X i hi (d + 0) _ a0 (0 : Int32) () h) hE (rmD_ok (by omega) (by decide)) rfl (Nat.le_of_ble_eq_true rfl) rfl d_JS_indexOf0_3 (x_rI (fun r2 u1 h => ?_))
  refine x_iret d_JS_indexOf0_6 ⟨_, rfl, ?_⟩
  exact h
end
section
abbrev y_D_isLetter : MethodName := ⟨"DeckFront", "isLetter", "(I)Z"⟩
abbrev b_D_isLetter : ByteArray := prog_1_method_13_code
abbrev w_D_isLetter : List Cond := (Jvm.Cond.code ({ cls := "DeckFront", name := "isLetter", desc := "(I)Z" } : Jvm.MethodName) prog_1_method_13_code (1 : Nat) (Option.some Jvm.ClassFile.FieldType.boolean)) :: wG
theorem d_D_isLetter_0 : decode b_D_isLetter 0 = .ok (.iload_n 0, 1) := by decide +kernel
theorem d_D_isLetter_1 : decode b_D_isLetter 1 = .ok (.bipush 65, 2) := by decide +kernel
theorem d_D_isLetter_3 : decode b_D_isLetter 3 = .ok (.if_icmp .lt 13, 3) := by decide +kernel
theorem d_D_isLetter_6 : decode b_D_isLetter 6 = .ok (.iload_n 0, 1) := by decide +kernel
theorem d_D_isLetter_7 : decode b_D_isLetter 7 = .ok (.bipush 90, 2) := by decide +kernel
theorem d_D_isLetter_9 : decode b_D_isLetter 9 = .ok (.if_icmp .gt 7, 3) := by decide +kernel
theorem d_D_isLetter_12 : decode b_D_isLetter 12 = .ok (.iconst 1, 1) := by decide +kernel
theorem d_D_isLetter_13 : decode b_D_isLetter 13 = .ok (.goto 4, 3) := by decide +kernel
theorem d_D_isLetter_16 : decode b_D_isLetter 16 = .ok (.iconst 0, 1) := by decide +kernel
theorem d_D_isLetter_17 : decode b_D_isLetter 17 = .ok (.ireturn, 1) := by decide +kernel
abbrev y_D_isDigit : MethodName := ⟨"DeckFront", "isDigit", "(I)Z"⟩
abbrev b_D_isDigit : ByteArray := prog_1_method_14_code
abbrev w_D_isDigit : List Cond := (Jvm.Cond.code ({ cls := "DeckFront", name := "isDigit", desc := "(I)Z" } : Jvm.MethodName) prog_1_method_14_code (1 : Nat) (Option.some Jvm.ClassFile.FieldType.boolean)) :: wG
theorem d_D_isDigit_0 : decode b_D_isDigit 0 = .ok (.iload_n 0, 1) := by decide +kernel
theorem d_D_isDigit_1 : decode b_D_isDigit 1 = .ok (.bipush 48, 2) := by decide +kernel
theorem d_D_isDigit_3 : decode b_D_isDigit 3 = .ok (.if_icmp .lt 13, 3) := by decide +kernel
theorem d_D_isDigit_6 : decode b_D_isDigit 6 = .ok (.iload_n 0, 1) := by decide +kernel
theorem d_D_isDigit_7 : decode b_D_isDigit 7 = .ok (.bipush 57, 2) := by decide +kernel
theorem d_D_isDigit_9 : decode b_D_isDigit 9 = .ok (.if_icmp .gt 7, 3) := by decide +kernel
theorem d_D_isDigit_12 : decode b_D_isDigit 12 = .ok (.iconst 1, 1) := by decide +kernel
theorem d_D_isDigit_13 : decode b_D_isDigit 13 = .ok (.goto 4, 3) := by decide +kernel
theorem d_D_isDigit_16 : decode b_D_isDigit 16 = .ok (.iconst 0, 1) := by decide +kernel
theorem d_D_isDigit_17 : decode b_D_isDigit 17 = .ok (.ireturn, 1) := by decide +kernel
abbrev y_D_nameOf : MethodName := ⟨"DeckFront", "nameOf", "(J)J"⟩
abbrev b_D_nameOf : ByteArray := prog_1_method_15_code
abbrev w_D_nameOf : List Cond := (Jvm.Cond.code ({ cls := "DeckFront", name := "nameOf", desc := "(J)J" } : Jvm.MethodName) prog_1_method_15_code (8 : Nat) (Option.some Jvm.ClassFile.FieldType.long)) :: wG
theorem d_D_nameOf_0 : decode b_D_nameOf 0 = .ok (.lconst 0, 1) := by decide +kernel
theorem d_D_nameOf_1 : decode b_D_nameOf 1 = .ok (.lstore_n 2, 1) := by decide +kernel
theorem d_D_nameOf_2 : decode b_D_nameOf 2 = .ok (.iconst 0, 1) := by decide +kernel
theorem d_D_nameOf_3 : decode b_D_nameOf 3 = .ok (.istore 4, 2) := by decide +kernel
theorem d_D_nameOf_5 : decode b_D_nameOf 5 = .ok (.bipush 56, 2) := by decide +kernel
theorem d_D_nameOf_7 : decode b_D_nameOf 7 = .ok (.istore 5, 2) := by decide +kernel
theorem d_D_nameOf_9 : decode b_D_nameOf 9 = .ok (.iload 5, 2) := by decide +kernel
theorem d_D_nameOf_11 : decode b_D_nameOf 11 = .ok (.ifCond .lt 82, 3) := by decide +kernel
theorem d_D_nameOf_14 : decode b_D_nameOf 14 = .ok (.lload_n 0, 1) := by decide +kernel
theorem d_D_nameOf_15 : decode b_D_nameOf 15 = .ok (.iload 5, 2) := by decide +kernel
theorem d_D_nameOf_17 : decode b_D_nameOf 17 = .ok (.lushr, 1) := by decide +kernel
theorem d_D_nameOf_18 : decode b_D_nameOf 18 = .ok (.l2i, 1) := by decide +kernel
theorem d_D_nameOf_19 : decode b_D_nameOf 19 = .ok (.sipush 255, 3) := by decide +kernel
theorem d_D_nameOf_22 : decode b_D_nameOf 22 = .ok (.iand, 1) := by decide +kernel
theorem d_D_nameOf_23 : decode b_D_nameOf 23 = .ok (.istore 6, 2) := by decide +kernel
theorem d_D_nameOf_25 : decode b_D_nameOf 25 = .ok (.iload 6, 2) := by decide +kernel
theorem d_D_nameOf_27 : decode b_D_nameOf 27 = .ok (.ifCond .ne 6, 3) := by decide +kernel
theorem d_D_nameOf_30 : decode b_D_nameOf 30 = .ok (.goto 57, 3) := by decide +kernel
theorem d_D_nameOf_33 : decode b_D_nameOf 33 = .ok (.iload 6, 2) := by decide +kernel
theorem d_D_nameOf_35 : decode b_D_nameOf 35 = .ok (.invokestatic 97, 3) := by decide +kernel
theorem d_D_nameOf_38 : decode b_D_nameOf 38 = .ok (.ifCond .ne 16, 3) := by decide +kernel
theorem d_D_nameOf_41 : decode b_D_nameOf 41 = .ok (.iload 4, 2) := by decide +kernel
theorem d_D_nameOf_43 : decode b_D_nameOf 43 = .ok (.ifCond .le 15, 3) := by decide +kernel
theorem d_D_nameOf_46 : decode b_D_nameOf 46 = .ok (.iload 6, 2) := by decide +kernel
theorem d_D_nameOf_48 : decode b_D_nameOf 48 = .ok (.invokestatic 101, 3) := by decide +kernel
theorem d_D_nameOf_51 : decode b_D_nameOf 51 = .ok (.ifCond .eq 7, 3) := by decide +kernel
theorem d_D_nameOf_54 : decode b_D_nameOf 54 = .ok (.iconst 1, 1) := by decide +kernel
theorem d_D_nameOf_55 : decode b_D_nameOf 55 = .ok (.goto 4, 3) := by decide +kernel
theorem d_D_nameOf_58 : decode b_D_nameOf 58 = .ok (.iconst 0, 1) := by decide +kernel
theorem d_D_nameOf_59 : decode b_D_nameOf 59 = .ok (.istore 7, 2) := by decide +kernel
theorem d_D_nameOf_61 : decode b_D_nameOf 61 = .ok (.iload 7, 2) := by decide +kernel
theorem d_D_nameOf_63 : decode b_D_nameOf 63 = .ok (.ifCond .eq 10, 3) := by decide +kernel
theorem d_D_nameOf_66 : decode b_D_nameOf 66 = .ok (.iload 4, 2) := by decide +kernel
theorem d_D_nameOf_68 : decode b_D_nameOf 68 = .ok (.bipush 6, 2) := by decide +kernel
theorem d_D_nameOf_70 : decode b_D_nameOf 70 = .ok (.if_icmp .ne 5, 3) := by decide +kernel
theorem d_D_nameOf_73 : decode b_D_nameOf 73 = .ok (.lconst 0, 1) := by decide +kernel
theorem d_D_nameOf_74 : decode b_D_nameOf 74 = .ok (.lreturn, 1) := by decide +kernel
theorem d_D_nameOf_75 : decode b_D_nameOf 75 = .ok (.lload_n 2, 1) := by decide +kernel
theorem d_D_nameOf_76 : decode b_D_nameOf 76 = .ok (.bipush 8, 2) := by decide +kernel
theorem d_D_nameOf_78 : decode b_D_nameOf 78 = .ok (.lshl, 1) := by decide +kernel
theorem d_D_nameOf_79 : decode b_D_nameOf 79 = .ok (.iload 6, 2) := by decide +kernel
theorem d_D_nameOf_81 : decode b_D_nameOf 81 = .ok (.i2l, 1) := by decide +kernel
theorem d_D_nameOf_82 : decode b_D_nameOf 82 = .ok (.lor, 1) := by decide +kernel
theorem d_D_nameOf_83 : decode b_D_nameOf 83 = .ok (.lstore_n 2, 1) := by decide +kernel
theorem d_D_nameOf_84 : decode b_D_nameOf 84 = .ok (.iinc 4 1, 3) := by decide +kernel
theorem d_D_nameOf_87 : decode b_D_nameOf 87 = .ok (.iinc 5 (-8), 3) := by decide +kernel
theorem d_D_nameOf_90 : decode b_D_nameOf 90 = .ok (.goto (-81), 3) := by decide +kernel
theorem d_D_nameOf_93 : decode b_D_nameOf 93 = .ok (.lload_n 2, 1) := by decide +kernel
theorem d_D_nameOf_94 : decode b_D_nameOf 94 = .ok (.lreturn, 1) := by decide +kernel
abbrev y_D_typeByLetter : MethodName := ⟨"DeckFront", "typeByLetter", "(J)I"⟩
abbrev b_D_typeByLetter : ByteArray := prog_1_method_16_code
abbrev w_D_typeByLetter : List Cond := (Jvm.Cond.code ({ cls := "DeckFront", name := "typeByLetter", desc := "(J)I" } : Jvm.MethodName) prog_1_method_16_code (5 : Nat) (Option.some Jvm.ClassFile.FieldType.int)) :: wG
theorem d_D_typeByLetter_0 : decode b_D_typeByLetter 0 = .ok (.lload_n 0, 1) := by decide +kernel
theorem d_D_typeByLetter_1 : decode b_D_typeByLetter 1 = .ok (.lstore_n 2, 1) := by decide +kernel
theorem d_D_typeByLetter_2 : decode b_D_typeByLetter 2 = .ok (.iconst 1, 1) := by decide +kernel
theorem d_D_typeByLetter_3 : decode b_D_typeByLetter 3 = .ok (.istore 4, 2) := by decide +kernel
theorem d_D_typeByLetter_5 : decode b_D_typeByLetter 5 = .ok (.iload 4, 2) := by decide +kernel
theorem d_D_typeByLetter_7 : decode b_D_typeByLetter 7 = .ok (.bipush 6, 2) := by decide +kernel
theorem d_D_typeByLetter_9 : decode b_D_typeByLetter 9 = .ok (.if_icmp .ge 22, 3) := by decide +kernel
theorem d_D_typeByLetter_12 : decode b_D_typeByLetter 12 = .ok (.lload_n 2, 1) := by decide +kernel
theorem d_D_typeByLetter_13 : decode b_D_typeByLetter 13 = .ok (.ldc2_w 104, 3) := by decide +kernel
theorem d_D_typeByLetter_16 : decode b_D_typeByLetter 16 = .ok (.lcmp, 1) := by decide +kernel
theorem d_D_typeByLetter_17 : decode b_D_typeByLetter 17 = .ok (.ifCond .le 14, 3) := by decide +kernel
theorem d_D_typeByLetter_20 : decode b_D_typeByLetter 20 = .ok (.lload_n 2, 1) := by decide +kernel
theorem d_D_typeByLetter_21 : decode b_D_typeByLetter 21 = .ok (.bipush 8, 2) := by decide +kernel
theorem d_D_typeByLetter_23 : decode b_D_typeByLetter 23 = .ok (.lushr, 1) := by decide +kernel
theorem d_D_typeByLetter_24 : decode b_D_typeByLetter 24 = .ok (.lstore_n 2, 1) := by decide +kernel
theorem d_D_typeByLetter_25 : decode b_D_typeByLetter 25 = .ok (.iinc 4 1, 3) := by decide +kernel
theorem d_D_typeByLetter_28 : decode b_D_typeByLetter 28 = .ok (.goto (-23), 3) := by decide +kernel
theorem d_D_typeByLetter_31 : decode b_D_typeByLetter 31 = .ok (.lload_n 2, 1) := by decide +kernel
theorem d_D_typeByLetter_32 : decode b_D_typeByLetter 32 = .ok (.ldc2_w 106, 3) := by decide +kernel
theorem d_D_typeByLetter_35 : decode b_D_typeByLetter 35 = .ok (.lcmp, 1) := by decide +kernel
theorem d_D_typeByLetter_36 : decode b_D_typeByLetter 36 = .ok (.ifCond .lt 15, 3) := by decide +kernel
theorem d_D_typeByLetter_39 : decode b_D_typeByLetter 39 = .ok (.lload_n 2, 1) := by decide +kernel
theorem d_D_typeByLetter_40 : decode b_D_typeByLetter 40 = .ok (.ldc2_w 108, 3) := by decide +kernel
theorem d_D_typeByLetter_43 : decode b_D_typeByLetter 43 = .ok (.lcmp, 1) := by decide +kernel
theorem d_D_typeByLetter_44 : decode b_D_typeByLetter 44 = .ok (.ifCond .gt 7, 3) := by decide +kernel
theorem d_D_typeByLetter_47 : decode b_D_typeByLetter 47 = .ok (.iconst 1, 1) := by decide +kernel
theorem d_D_typeByLetter_48 : decode b_D_typeByLetter 48 = .ok (.goto 4, 3) := by decide +kernel
theorem d_D_typeByLetter_51 : decode b_D_typeByLetter 51 = .ok (.iconst 2, 1) := by decide +kernel
theorem d_D_typeByLetter_52 : decode b_D_typeByLetter 52 = .ok (.ireturn, 1) := by decide +kernel
abbrev y_C_append : MethodName := ⟨"DeckFront$Card", "append", "(J)Z"⟩
abbrev b_C_append : ByteArray := prog_2_method_2_code
abbrev w_C_append : List Cond := (Jvm.Cond.code ({ cls := "DeckFront$Card", name := "append", desc := "(J)Z" } : Jvm.MethodName) prog_2_method_2_code (6 : Nat) (Option.some Jvm.ClassFile.FieldType.boolean)) :: wG
theorem d_C_append_0 : decode b_C_append 0 = .ok (.iconst 0, 1) := by decide +kernel
theorem d_C_append_1 : decode b_C_append 1 = .ok (.istore_n 3, 1) := by decide +kernel
theorem d_C_append_2 : decode b_C_append 2 = .ok (.bipush 56, 2) := by decide +kernel
theorem d_C_append_4 : decode b_C_append 4 = .ok (.istore 4, 2) := by decide +kernel
theorem d_C_append_6 : decode b_C_append 6 = .ok (.iload 4, 2) := by decide +kernel
theorem d_C_append_8 : decode b_C_append 8 = .ok (.ifCond .lt 48, 3) := by decide +kernel
theorem d_C_append_11 : decode b_C_append 11 = .ok (.lload_n 1, 1) := by decide +kernel
theorem d_C_append_12 : decode b_C_append 12 = .ok (.iload 4, 2) := by decide +kernel
theorem d_C_append_14 : decode b_C_append 14 = .ok (.lushr, 1) := by decide +kernel
theorem d_C_append_15 : decode b_C_append 15 = .ok (.l2i, 1) := by decide +kernel
theorem d_C_append_16 : decode b_C_append 16 = .ok (.sipush 255, 3) := by decide +kernel
theorem d_C_append_19 : decode b_C_append 19 = .ok (.iand, 1) := by decide +kernel
theorem d_C_append_20 : decode b_C_append 20 = .ok (.istore 5, 2) := by decide +kernel
theorem d_C_append_22 : decode b_C_append 22 = .ok (.iload 5, 2) := by decide +kernel
theorem d_C_append_24 : decode b_C_append 24 = .ok (.ifCond .eq 13, 3) := by decide +kernel
theorem d_C_append_27 : decode b_C_append 27 = .ok (.iload 5, 2) := by decide +kernel
theorem d_C_append_29 : decode b_C_append 29 = .ok (.invokestatic 15, 3) := by decide +kernel
theorem d_C_append_32 : decode b_C_append 32 = .ok (.ifCond .ne 5, 3) := by decide +kernel
theorem d_C_append_35 : decode b_C_append 35 = .ok (.iconst 0, 1) := by decide +kernel
theorem d_C_append_36 : decode b_C_append 36 = .ok (.ireturn, 1) := by decide +kernel
theorem d_C_append_37 : decode b_C_append 37 = .ok (.iload_n 3, 1) := by decide +kernel
theorem d_C_append_38 : decode b_C_append 38 = .ok (.iload 5, 2) := by decide +kernel
theorem d_C_append_40 : decode b_C_append 40 = .ok (.ifCond .ne 7, 3) := by decide +kernel
theorem d_C_append_43 : decode b_C_append 43 = .ok (.iconst 0, 1) := by decide +kernel
theorem d_C_append_44 : decode b_C_append 44 = .ok (.goto 4, 3) := by decide +kernel
theorem d_C_append_47 : decode b_C_append 47 = .ok (.iconst 1, 1) := by decide +kernel
theorem d_C_append_48 : decode b_C_append 48 = .ok (.iadd, 1) := by decide +kernel
theorem d_C_append_49 : decode b_C_append 49 = .ok (.istore_n 3, 1) := by decide +kernel
theorem d_C_append_50 : decode b_C_append 50 = .ok (.iinc 4 (-8), 3) := by decide +kernel
theorem d_C_append_53 : decode b_C_append 53 = .ok (.goto (-47), 3) := by decide +kernel
theorem d_C_append_56 : decode b_C_append 56 = .ok (.aload_n 0, 1) := by decide +kernel
theorem d_C_append_57 : decode b_C_append 57 = .ok (.getfield 19, 3) := by decide +kernel
theorem d_C_append_60 : decode b_C_append 60 = .ok (.iload_n 3, 1) := by decide +kernel
theorem d_C_append_61 : decode b_C_append 61 = .ok (.iadd, 1) := by decide +kernel
theorem d_C_append_62 : decode b_C_append 62 = .ok (.bipush 72, 2) := by decide +kernel
theorem d_C_append_64 : decode b_C_append 64 = .ok (.if_icmp .le 5, 3) := by decide +kernel
theorem d_C_append_67 : decode b_C_append 67 = .ok (.iconst 0, 1) := by decide +kernel
theorem d_C_append_68 : decode b_C_append 68 = .ok (.ireturn, 1) := by decide +kernel
theorem d_C_append_69 : decode b_C_append 69 = .ok (.bipush 56, 2) := by decide +kernel
theorem d_C_append_71 : decode b_C_append 71 = .ok (.istore 4, 2) := by decide +kernel
theorem d_C_append_73 : decode b_C_append 73 = .ok (.iload 4, 2) := by decide +kernel
theorem d_C_append_75 : decode b_C_append 75 = .ok (.ifCond .lt 47, 3) := by decide +kernel
theorem d_C_append_78 : decode b_C_append 78 = .ok (.lload_n 1, 1) := by decide +kernel
theorem d_C_append_79 : decode b_C_append 79 = .ok (.iload 4, 2) := by decide +kernel
theorem d_C_append_81 : decode b_C_append 81 = .ok (.lushr, 1) := by decide +kernel
theorem d_C_append_82 : decode b_C_append 82 = .ok (.l2i, 1) := by decide +kernel
theorem d_C_append_83 : decode b_C_append 83 = .ok (.sipush 255, 3) := by decide +kernel
theorem d_C_append_86 : decode b_C_append 86 = .ok (.iand, 1) := by decide +kernel
theorem d_C_append_87 : decode b_C_append 87 = .ok (.istore 5, 2) := by decide +kernel
theorem d_C_append_89 : decode b_C_append 89 = .ok (.iload 5, 2) := by decide +kernel
theorem d_C_append_91 : decode b_C_append 91 = .ok (.ifCond .eq 25, 3) := by decide +kernel
theorem d_C_append_94 : decode b_C_append 94 = .ok (.aload_n 0, 1) := by decide +kernel
theorem d_C_append_95 : decode b_C_append 95 = .ok (.getfield 9, 3) := by decide +kernel
theorem d_C_append_98 : decode b_C_append 98 = .ok (.aload_n 0, 1) := by decide +kernel
theorem d_C_append_99 : decode b_C_append 99 = .ok (.getfield 19, 3) := by decide +kernel
theorem d_C_append_102 : decode b_C_append 102 = .ok (.iload 5, 2) := by decide +kernel
theorem d_C_append_104 : decode b_C_append 104 = .ok (.i2c, 1) := by decide +kernel
theorem d_C_append_105 : decode b_C_append 105 = .ok (.castore, 1) := by decide +kernel
theorem d_C_append_106 : decode b_C_append 106 = .ok (.aload_n 0, 1) := by decide +kernel
theorem d_C_append_107 : decode b_C_append 107 = .ok (.dup, 1) := by decide +kernel
theorem d_C_append_108 : decode b_C_append 108 = .ok (.getfield 19, 3) := by decide +kernel
theorem d_C_append_111 : decode b_C_append 111 = .ok (.iconst 1, 1) := by decide +kernel
theorem d_C_append_112 : decode b_C_append 112 = .ok (.iadd, 1) := by decide +kernel
theorem d_C_append_113 : decode b_C_append 113 = .ok (.putfield 19, 3) := by decide +kernel
theorem d_C_append_116 : decode b_C_append 116 = .ok (.iinc 4 (-8), 3) := by decide +kernel
theorem d_C_append_119 : decode b_C_append 119 = .ok (.goto (-46), 3) := by decide +kernel
theorem d_C_append_122 : decode b_C_append 122 = .ok (.iconst 1, 1) := by decide +kernel
theorem d_C_append_123 : decode b_C_append 123 = .ok (.ireturn, 1) := by decide +kernel
abbrev y_C_isCardSign : MethodName := ⟨"DeckFront$Card", "isCardSign", "(I)Z"⟩
abbrev b_C_isCardSign : ByteArray := prog_2_method_3_code
abbrev w_C_isCardSign : List Cond := (Jvm.Cond.code ({ cls := "DeckFront$Card", name := "isCardSign", desc := "(I)Z" } : Jvm.MethodName) prog_2_method_3_code (1 : Nat) (Option.some Jvm.ClassFile.FieldType.boolean)) :: wG
theorem d_C_isCardSign_0 : decode b_C_isCardSign 0 = .ok (.iload_n 0, 1) := by decide +kernel
theorem d_C_isCardSign_1 : decode b_C_isCardSign 1 = .ok (.invokestatic 23, 3) := by decide +kernel
theorem d_C_isCardSign_4 : decode b_C_isCardSign 4 = .ok (.ifCond .ne 20, 3) := by decide +kernel
theorem d_C_isCardSign_7 : decode b_C_isCardSign 7 = .ok (.iload_n 0, 1) := by decide +kernel
theorem d_C_isCardSign_8 : decode b_C_isCardSign 8 = .ok (.invokestatic 26, 3) := by decide +kernel
theorem d_C_isCardSign_11 : decode b_C_isCardSign 11 = .ok (.ifCond .ne 13, 3) := by decide +kernel
theorem d_C_isCardSign_14 : decode b_C_isCardSign 14 = .ok (.ldc 29, 2) := by decide +kernel
theorem d_C_isCardSign_16 : decode b_C_isCardSign 16 = .ok (.iload_n 0, 1) := by decide +kernel
theorem d_C_isCardSign_17 : decode b_C_isCardSign 17 = .ok (.i2c, 1) := by decide +kernel
theorem d_C_isCardSign_18 : decode b_C_isCardSign 18 = .ok (.invokevirtual 31, 3) := by decide +kernel
theorem d_C_isCardSign_21 : decode b_C_isCardSign 21 = .ok (.ifCond .lt 7, 3) := by decide +kernel
theorem d_C_isCardSign_24 : decode b_C_isCardSign 24 = .ok (.iconst 1, 1) := by decide +kernel
theorem d_C_isCardSign_25 : decode b_C_isCardSign 25 = .ok (.goto 4, 3) := by decide +kernel
theorem d_C_isCardSign_28 : decode b_C_isCardSign 28 = .ok (.iconst 0, 1) := by decide +kernel
theorem d_C_isCardSign_29 : decode b_C_isCardSign 29 = .ok (.ireturn, 1) := by decide +kernel
abbrev y_C_isComment : MethodName := ⟨"DeckFront$Card", "isComment", "()Z"⟩
abbrev b_C_isComment : ByteArray := prog_2_method_4_code
abbrev w_C_isComment : List Cond := (Jvm.Cond.code ({ cls := "DeckFront$Card", name := "isComment", desc := "()Z" } : Jvm.MethodName) prog_2_method_4_code (1 : Nat) (Option.some Jvm.ClassFile.FieldType.boolean)) :: wG
theorem d_C_isComment_0 : decode b_C_isComment 0 = .ok (.aload_n 0, 1) := by decide +kernel
theorem d_C_isComment_1 : decode b_C_isComment 1 = .ok (.getfield 19, 3) := by decide +kernel
theorem d_C_isComment_4 : decode b_C_isComment 4 = .ok (.ifCond .le 25, 3) := by decide +kernel
theorem d_C_isComment_7 : decode b_C_isComment 7 = .ok (.aload_n 0, 1) := by decide +kernel
theorem d_C_isComment_8 : decode b_C_isComment 8 = .ok (.getfield 9, 3) := by decide +kernel
theorem d_C_isComment_11 : decode b_C_isComment 11 = .ok (.iconst 0, 1) := by decide +kernel
theorem d_C_isComment_12 : decode b_C_isComment 12 = .ok (.caload, 1) := by decide +kernel
theorem d_C_isComment_13 : decode b_C_isComment 13 = .ok (.bipush 67, 2) := by decide +kernel
theorem d_C_isComment_15 : decode b_C_isComment 15 = .ok (.if_icmp .eq 25, 3) := by decide +kernel
theorem d_C_isComment_18 : decode b_C_isComment 18 = .ok (.aload_n 0, 1) := by decide +kernel
theorem d_C_isComment_19 : decode b_C_isComment 19 = .ok (.getfield 9, 3) := by decide +kernel
theorem d_C_isComment_22 : decode b_C_isComment 22 = .ok (.iconst 0, 1) := by decide +kernel
theorem d_C_isComment_23 : decode b_C_isComment 23 = .ok (.caload, 1) := by decide +kernel
theorem d_C_isComment_24 : decode b_C_isComment 24 = .ok (.bipush 42, 2) := by decide +kernel
theorem d_C_isComment_26 : decode b_C_isComment 26 = .ok (.if_icmp .eq 14, 3) := by decide +kernel
theorem d_C_isComment_29 : decode b_C_isComment 29 = .ok (.aload_n 0, 1) := by decide +kernel
theorem d_C_isComment_30 : decode b_C_isComment 30 = .ok (.aload_n 0, 1) := by decide +kernel
theorem d_C_isComment_31 : decode b_C_isComment 31 = .ok (.getfield 19, 3) := by decide +kernel
theorem d_C_isComment_34 : decode b_C_isComment 34 = .ok (.invokevirtual 37, 3) := by decide +kernel
theorem d_C_isComment_37 : decode b_C_isComment 37 = .ok (.ifCond .eq 7, 3) := by decide +kernel
theorem d_C_isComment_40 : decode b_C_isComment 40 = .ok (.iconst 1, 1) := by decide +kernel
theorem d_C_isComment_41 : decode b_C_isComment 41 = .ok (.goto 4, 3) := by decide +kernel
theorem d_C_isComment_44 : decode b_C_isComment 44 = .ok (.iconst 0, 1) := by decide +kernel
theorem d_C_isComment_45 : decode b_C_isComment 45 = .ok (.ireturn, 1) := by decide +kernel
abbrev y_C_isBlankTo : MethodName := ⟨"DeckFront$Card", "isBlankTo", "(I)Z"⟩
abbrev b_C_isBlankTo : ByteArray := prog_2_method_5_code
abbrev w_C_isBlankTo : List Cond := (Jvm.Cond.code ({ cls := "DeckFront$Card", name := "isBlankTo", desc := "(I)Z" } : Jvm.MethodName) prog_2_method_5_code (3 : Nat) (Option.some Jvm.ClassFile.FieldType.boolean)) :: wG
theorem d_C_isBlankTo_0 : decode b_C_isBlankTo 0 = .ok (.iconst 0, 1) := by decide +kernel
theorem d_C_isBlankTo_1 : decode b_C_isBlankTo 1 = .ok (.istore_n 2, 1) := by decide +kernel
theorem d_C_isBlankTo_2 : decode b_C_isBlankTo 2 = .ok (.iload_n 2, 1) := by decide +kernel
theorem d_C_isBlankTo_3 : decode b_C_isBlankTo 3 = .ok (.iload_n 1, 1) := by decide +kernel
theorem d_C_isBlankTo_4 : decode b_C_isBlankTo 4 = .ok (.if_icmp .ge 30, 3) := by decide +kernel
theorem d_C_isBlankTo_7 : decode b_C_isBlankTo 7 = .ok (.iload_n 2, 1) := by decide +kernel
theorem d_C_isBlankTo_8 : decode b_C_isBlankTo 8 = .ok (.aload_n 0, 1) := by decide +kernel
theorem d_C_isBlankTo_9 : decode b_C_isBlankTo 9 = .ok (.getfield 19, 3) := by decide +kernel
theorem d_C_isBlankTo_12 : decode b_C_isBlankTo 12 = .ok (.if_icmp .ge 22, 3) := by decide +kernel
theorem d_C_isBlankTo_15 : decode b_C_isBlankTo 15 = .ok (.aload_n 0, 1) := by decide +kernel
theorem d_C_isBlankTo_16 : decode b_C_isBlankTo 16 = .ok (.getfield 9, 3) := by decide +kernel
theorem d_C_isBlankTo_19 : decode b_C_isBlankTo 19 = .ok (.iload_n 2, 1) := by decide +kernel
theorem d_C_isBlankTo_20 : decode b_C_isBlankTo 20 = .ok (.caload, 1) := by decide +kernel
theorem d_C_isBlankTo_21 : decode b_C_isBlankTo 21 = .ok (.bipush 32, 2) := by decide +kernel
theorem d_C_isBlankTo_23 : decode b_C_isBlankTo 23 = .ok (.if_icmp .eq 5, 3) := by decide +kernel
theorem d_C_isBlankTo_26 : decode b_C_isBlankTo 26 = .ok (.iconst 0, 1) := by decide +kernel
theorem d_C_isBlankTo_27 : decode b_C_isBlankTo 27 = .ok (.ireturn, 1) := by decide +kernel
theorem d_C_isBlankTo_28 : decode b_C_isBlankTo 28 = .ok (.iinc 2 1, 3) := by decide +kernel
theorem d_C_isBlankTo_31 : decode b_C_isBlankTo 31 = .ok (.goto (-29), 3) := by decide +kernel
theorem d_C_isBlankTo_34 : decode b_C_isBlankTo 34 = .ok (.iconst 1, 1) := by decide +kernel
theorem d_C_isBlankTo_35 : decode b_C_isBlankTo 35 = .ok (.ireturn, 1) := by decide +kernel
abbrev y_C_continuesOne : MethodName := ⟨"DeckFront$Card", "continuesOne", "()Z"⟩
abbrev b_C_continuesOne : ByteArray := prog_2_method_6_code
abbrev w_C_continuesOne : List Cond := (Jvm.Cond.code ({ cls := "DeckFront$Card", name := "continuesOne", desc := "()Z" } : Jvm.MethodName) prog_2_method_6_code (1 : Nat) (Option.some Jvm.ClassFile.FieldType.boolean)) :: wG
theorem d_C_continuesOne_0 : decode b_C_continuesOne 0 = .ok (.aload_n 0, 1) := by decide +kernel
theorem d_C_continuesOne_1 : decode b_C_continuesOne 1 = .ok (.getfield 19, 3) := by decide +kernel
theorem d_C_continuesOne_4 : decode b_C_continuesOne 4 = .ok (.iconst 5, 1) := by decide +kernel
theorem d_C_continuesOne_5 : decode b_C_continuesOne 5 = .ok (.if_icmp .le 29, 3) := by decide +kernel
theorem d_C_continuesOne_8 : decode b_C_continuesOne 8 = .ok (.aload_n 0, 1) := by decide +kernel
theorem d_C_continuesOne_9 : decode b_C_continuesOne 9 = .ok (.getfield 9, 3) := by decide +kernel
theorem d_C_continuesOne_12 : decode b_C_continuesOne 12 = .ok (.iconst 5, 1) := by decide +kernel
theorem d_C_continuesOne_13 : decode b_C_continuesOne 13 = .ok (.caload, 1) := by decide +kernel
theorem d_C_continuesOne_14 : decode b_C_continuesOne 14 = .ok (.bipush 32, 2) := by decide +kernel
theorem d_C_continuesOne_16 : decode b_C_continuesOne 16 = .ok (.if_icmp .eq 18, 3) := by decide +kernel
theorem d_C_continuesOne_19 : decode b_C_continuesOne 19 = .ok (.aload_n 0, 1) := by decide +kernel
theorem d_C_continuesOne_20 : decode b_C_continuesOne 20 = .ok (.getfield 9, 3) := by decide +kernel
theorem d_C_continuesOne_23 : decode b_C_continuesOne 23 = .ok (.iconst 5, 1) := by decide +kernel
theorem d_C_continuesOne_24 : decode b_C_continuesOne 24 = .ok (.caload, 1) := by decide +kernel
theorem d_C_continuesOne_25 : decode b_C_continuesOne 25 = .ok (.bipush 48, 2) := by decide +kernel
theorem d_C_continuesOne_27 : decode b_C_continuesOne 27 = .ok (.if_icmp .eq 7, 3) := by decide +kernel
theorem d_C_continuesOne_30 : decode b_C_continuesOne 30 = .ok (.iconst 1, 1) := by decide +kernel
theorem d_C_continuesOne_31 : decode b_C_continuesOne 31 = .ok (.goto 4, 3) := by decide +kernel
theorem d_C_continuesOne_34 : decode b_C_continuesOne 34 = .ok (.iconst 0, 1) := by decide +kernel
theorem d_C_continuesOne_35 : decode b_C_continuesOne 35 = .ok (.ireturn, 1) := by decide +kernel
abbrev y_C_hasGoodLabelField : MethodName := ⟨"DeckFront$Card", "hasGoodLabelField", "()Z"⟩
abbrev b_C_hasGoodLabelField : ByteArray := prog_2_method_7_code
abbrev w_C_hasGoodLabelField : List Cond := (Jvm.Cond.code ({ cls := "DeckFront$Card", name := "hasGoodLabelField", desc := "()Z" } : Jvm.MethodName) prog_2_method_7_code (2 : Nat) (Option.some Jvm.ClassFile.FieldType.boolean)) :: wG
theorem d_C_hasGoodLabelField_0 : decode b_C_hasGoodLabelField 0 = .ok (.aload_n 0, 1) := by decide +kernel
theorem d_C_hasGoodLabelField_1 : decode b_C_hasGoodLabelField 1 = .ok (.invokevirtual 40, 3) := by decide +kernel
theorem d_C_hasGoodLabelField_4 : decode b_C_hasGoodLabelField 4 = .ok (.ifCond .eq 9, 3) := by decide +kernel
theorem d_C_hasGoodLabelField_7 : decode b_C_hasGoodLabelField 7 = .ok (.aload_n 0, 1) := by decide +kernel
theorem d_C_hasGoodLabelField_8 : decode b_C_hasGoodLabelField 8 = .ok (.iconst 5, 1) := by decide +kernel
theorem d_C_hasGoodLabelField_9 : decode b_C_hasGoodLabelField 9 = .ok (.invokevirtual 37, 3) := by decide +kernel
theorem d_C_hasGoodLabelField_12 : decode b_C_hasGoodLabelField 12 = .ok (.ireturn, 1) := by decide +kernel
theorem d_C_hasGoodLabelField_13 : decode b_C_hasGoodLabelField 13 = .ok (.iconst 0, 1) := by decide +kernel
theorem d_C_hasGoodLabelField_14 : decode b_C_hasGoodLabelField 14 = .ok (.istore_n 1, 1) := by decide +kernel
theorem d_C_hasGoodLabelField_15 : decode b_C_hasGoodLabelField 15 = .ok (.iload_n 1, 1) := by decide +kernel
theorem d_C_hasGoodLabelField_16 : decode b_C_hasGoodLabelField 16 = .ok (.iconst 5, 1) := by decide +kernel
theorem d_C_hasGoodLabelField_17 : decode b_C_hasGoodLabelField 17 = .ok (.if_icmp .ge 42, 3) := by decide +kernel
theorem d_C_hasGoodLabelField_20 : decode b_C_hasGoodLabelField 20 = .ok (.iload_n 1, 1) := by decide +kernel
theorem d_C_hasGoodLabelField_21 : decode b_C_hasGoodLabelField 21 = .ok (.aload_n 0, 1) := by decide +kernel
theorem d_C_hasGoodLabelField_22 : decode b_C_hasGoodLabelField 22 = .ok (.getfield 19, 3) := by decide +kernel
theorem d_C_hasGoodLabelField_25 : decode b_C_hasGoodLabelField 25 = .ok (.if_icmp .ge 34, 3) := by decide +kernel
theorem d_C_hasGoodLabelField_28 : decode b_C_hasGoodLabelField 28 = .ok (.aload_n 0, 1) := by decide +kernel
theorem d_C_hasGoodLabelField_29 : decode b_C_hasGoodLabelField 29 = .ok (.getfield 9, 3) := by decide +kernel
theorem d_C_hasGoodLabelField_32 : decode b_C_hasGoodLabelField 32 = .ok (.iload_n 1, 1) := by decide +kernel
theorem d_C_hasGoodLabelField_33 : decode b_C_hasGoodLabelField 33 = .ok (.caload, 1) := by decide +kernel
theorem d_C_hasGoodLabelField_34 : decode b_C_hasGoodLabelField 34 = .ok (.bipush 32, 2) := by decide +kernel
theorem d_C_hasGoodLabelField_36 : decode b_C_hasGoodLabelField 36 = .ok (.if_icmp .eq 17, 3) := by decide +kernel
theorem d_C_hasGoodLabelField_39 : decode b_C_hasGoodLabelField 39 = .ok (.aload_n 0, 1) := by decide +kernel
theorem d_C_hasGoodLabelField_40 : decode b_C_hasGoodLabelField 40 = .ok (.getfield 9, 3) := by decide +kernel
theorem d_C_hasGoodLabelField_43 : decode b_C_hasGoodLabelField 43 = .ok (.iload_n 1, 1) := by decide +kernel
theorem d_C_hasGoodLabelField_44 : decode b_C_hasGoodLabelField 44 = .ok (.caload, 1) := by decide +kernel
theorem d_C_hasGoodLabelField_45 : decode b_C_hasGoodLabelField 45 = .ok (.invokestatic 26, 3) := by decide +kernel
theorem d_C_hasGoodLabelField_48 : decode b_C_hasGoodLabelField 48 = .ok (.ifCond .ne 5, 3) := by decide +kernel
theorem d_C_hasGoodLabelField_51 : decode b_C_hasGoodLabelField 51 = .ok (.iconst 0, 1) := by decide +kernel
theorem d_C_hasGoodLabelField_52 : decode b_C_hasGoodLabelField 52 = .ok (.ireturn, 1) := by decide +kernel
theorem d_C_hasGoodLabelField_53 : decode b_C_hasGoodLabelField 53 = .ok (.iinc 1 1, 3) := by decide +kernel
theorem d_C_hasGoodLabelField_56 : decode b_C_hasGoodLabelField 56 = .ok (.goto (-41), 3) := by decide +kernel
theorem d_C_hasGoodLabelField_59 : decode b_C_hasGoodLabelField 59 = .ok (.iconst 1, 1) := by decide +kernel
theorem d_C_hasGoodLabelField_60 : decode b_C_hasGoodLabelField 60 = .ok (.ireturn, 1) := by decide +kernel
abbrev y_C_numberInLabelField : MethodName := ⟨"DeckFront$Card", "numberInLabelField", "()I"⟩
abbrev b_C_numberInLabelField : ByteArray := prog_2_method_8_code
abbrev w_C_numberInLabelField : List Cond := (Jvm.Cond.code ({ cls := "DeckFront$Card", name := "numberInLabelField", desc := "()I" } : Jvm.MethodName) prog_2_method_8_code (3 : Nat) (Option.some Jvm.ClassFile.FieldType.int)) :: wG
theorem d_C_numberInLabelField_0 : decode b_C_numberInLabelField 0 = .ok (.iconst 0, 1) := by decide +kernel
theorem d_C_numberInLabelField_1 : decode b_C_numberInLabelField 1 = .ok (.istore_n 1, 1) := by decide +kernel
theorem d_C_numberInLabelField_2 : decode b_C_numberInLabelField 2 = .ok (.iconst 0, 1) := by decide +kernel
theorem d_C_numberInLabelField_3 : decode b_C_numberInLabelField 3 = .ok (.istore_n 2, 1) := by decide +kernel
theorem d_C_numberInLabelField_4 : decode b_C_numberInLabelField 4 = .ok (.iload_n 2, 1) := by decide +kernel
theorem d_C_numberInLabelField_5 : decode b_C_numberInLabelField 5 = .ok (.iconst 5, 1) := by decide +kernel
theorem d_C_numberInLabelField_6 : decode b_C_numberInLabelField 6 = .ok (.if_icmp .ge 44, 3) := by decide +kernel
theorem d_C_numberInLabelField_9 : decode b_C_numberInLabelField 9 = .ok (.iload_n 2, 1) := by decide +kernel
theorem d_C_numberInLabelField_10 : decode b_C_numberInLabelField 10 = .ok (.aload_n 0, 1) := by decide +kernel
theorem d_C_numberInLabelField_11 : decode b_C_numberInLabelField 11 = .ok (.getfield 19, 3) := by decide +kernel
theorem d_C_numberInLabelField_14 : decode b_C_numberInLabelField 14 = .ok (.if_icmp .ge 36, 3) := by decide +kernel
theorem d_C_numberInLabelField_17 : decode b_C_numberInLabelField 17 = .ok (.aload_n 0, 1) := by decide +kernel
theorem d_C_numberInLabelField_18 : decode b_C_numberInLabelField 18 = .ok (.getfield 9, 3) := by decide +kernel
theorem d_C_numberInLabelField_21 : decode b_C_numberInLabelField 21 = .ok (.iload_n 2, 1) := by decide +kernel
theorem d_C_numberInLabelField_22 : decode b_C_numberInLabelField 22 = .ok (.caload, 1) := by decide +kernel
theorem d_C_numberInLabelField_23 : decode b_C_numberInLabelField 23 = .ok (.invokestatic 26, 3) := by decide +kernel
theorem d_C_numberInLabelField_26 : decode b_C_numberInLabelField 26 = .ok (.ifCond .eq 18, 3) := by decide +kernel
theorem d_C_numberInLabelField_29 : decode b_C_numberInLabelField 29 = .ok (.iload_n 1, 1) := by decide +kernel
theorem d_C_numberInLabelField_30 : decode b_C_numberInLabelField 30 = .ok (.bipush 10, 2) := by decide +kernel
theorem d_C_numberInLabelField_32 : decode b_C_numberInLabelField 32 = .ok (.imul, 1) := by decide +kernel
theorem d_C_numberInLabelField_33 : decode b_C_numberInLabelField 33 = .ok (.aload_n 0, 1) := by decide +kernel
theorem d_C_numberInLabelField_34 : decode b_C_numberInLabelField 34 = .ok (.getfield 9, 3) := by decide +kernel
theorem d_C_numberInLabelField_37 : decode b_C_numberInLabelField 37 = .ok (.iload_n 2, 1) := by decide +kernel
theorem d_C_numberInLabelField_38 : decode b_C_numberInLabelField 38 = .ok (.caload, 1) := by decide +kernel
theorem d_C_numberInLabelField_39 : decode b_C_numberInLabelField 39 = .ok (.iadd, 1) := by decide +kernel
theorem d_C_numberInLabelField_40 : decode b_C_numberInLabelField 40 = .ok (.bipush 48, 2) := by decide +kernel
theorem d_C_numberInLabelField_42 : decode b_C_numberInLabelField 42 = .ok (.isub, 1) := by decide +kernel
theorem d_C_numberInLabelField_43 : decode b_C_numberInLabelField 43 = .ok (.istore_n 1, 1) := by decide +kernel
theorem d_C_numberInLabelField_44 : decode b_C_numberInLabelField 44 = .ok (.iinc 2 1, 3) := by decide +kernel
theorem d_C_numberInLabelField_47 : decode b_C_numberInLabelField 47 = .ok (.goto (-43), 3) := by decide +kernel
theorem d_C_numberInLabelField_50 : decode b_C_numberInLabelField 50 = .ok (.iload_n 1, 1) := by decide +kernel
theorem d_C_numberInLabelField_51 : decode b_C_numberInLabelField 51 = .ok (.ireturn, 1) := by decide +kernel
abbrev y_T_wipe : MethodName := ⟨"DeckFront$Tape", "wipe", "()V"⟩
abbrev b_T_wipe : ByteArray := prog_6_method_2_code
abbrev w_T_wipe : List Cond := (Jvm.Cond.code ({ cls := "DeckFront$Tape", name := "wipe", desc := "()V" } : Jvm.MethodName) prog_6_method_2_code (1 : Nat) (Option.none : Option Jvm.ClassFile.FieldType)) :: wG
theorem d_T_wipe_0 : decode b_T_wipe 0 = .ok (.aload_n 0, 1) := by decide +kernel
theorem d_T_wipe_1 : decode b_T_wipe 1 = .ok (.iconst 0, 1) := by decide +kernel
theorem d_T_wipe_2 : decode b_T_wipe 2 = .ok (.putfield 25, 3) := by decide +kernel
theorem d_T_wipe_5 : decode b_T_wipe 5 = .ok (.aload_n 0, 1) := by decide +kernel
theorem d_T_wipe_6 : decode b_T_wipe 6 = .ok (.iconst 0, 1) := by decide +kernel
theorem d_T_wipe_7 : decode b_T_wipe 7 = .ok (.putfield 29, 3) := by decide +kernel
theorem d_T_wipe_10 : decode b_T_wipe 10 = .ok (.aload_n 0, 1) := by decide +kernel
theorem d_T_wipe_11 : decode b_T_wipe 11 = .ok (.iconst 0, 1) := by decide +kernel
theorem d_T_wipe_12 : decode b_T_wipe 12 = .ok (.putfield 32, 3) := by decide +kernel
theorem d_T_wipe_15 : decode b_T_wipe 15 = .ok (.return_, 1) := by decide +kernel
abbrev y_T_append : MethodName := ⟨"DeckFront$Tape", "append", "(LDeckFront$Card;)Z"⟩
abbrev b_T_append : ByteArray := prog_6_method_3_code
abbrev w_T_append : List Cond := (Jvm.Cond.code ({ cls := "DeckFront$Tape", name := "append", desc := "(LDeckFront$Card;)Z" } : Jvm.MethodName) prog_6_method_3_code (6 : Nat) (Option.some Jvm.ClassFile.FieldType.boolean)) :: wG
theorem d_T_append_0 : decode b_T_append 0 = .ok (.aload_n 0, 1) := by decide +kernel
theorem d_T_append_1 : decode b_T_append 1 = .ok (.getfield 25, 3) := by decide +kernel
theorem d_T_append_4 : decode b_T_append 4 = .ok (.istore_n 2, 1) := by decide +kernel
theorem d_T_append_5 : decode b_T_append 5 = .ok (.aload_n 0, 1) := by decide +kernel
theorem d_T_append_6 : decode b_T_append 6 = .ok (.getfield 32, 3) := by decide +kernel
theorem d_T_append_9 : decode b_T_append 9 = .ok (.istore_n 3, 1) := by decide +kernel
theorem d_T_append_10 : decode b_T_append 10 = .ok (.bipush 6, 2) := by decide +kernel
theorem d_T_append_12 : decode b_T_append 12 = .ok (.istore 4, 2) := by decide +kernel
theorem d_T_append_14 : decode b_T_append 14 = .ok (.iload 4, 2) := by decide +kernel
theorem d_T_append_16 : decode b_T_append 16 = .ok (.aload_n 1, 1) := by decide +kernel
theorem d_T_append_17 : decode b_T_append 17 = .ok (.getfield 36, 3) := by decide +kernel
theorem d_T_append_20 : decode b_T_append 20 = .ok (.if_icmp .ge 100, 3) := by decide +kernel
theorem d_T_append_23 : decode b_T_append 23 = .ok (.aload_n 1, 1) := by decide +kernel
theorem d_T_append_24 : decode b_T_append 24 = .ok (.getfield 39, 3) := by decide +kernel
theorem d_T_append_27 : decode b_T_append 27 = .ok (.iload 4, 2) := by decide +kernel
theorem d_T_append_29 : decode b_T_append 29 = .ok (.caload, 1) := by decide +kernel
theorem d_T_append_30 : decode b_T_append 30 = .ok (.istore 5, 2) := by decide +kernel
theorem d_T_append_32 : decode b_T_append 32 = .ok (.iload 5, 2) := by decide +kernel
theorem d_T_append_34 : decode b_T_append 34 = .ok (.bipush 39, 2) := by decide +kernel
theorem d_T_append_36 : decode b_T_append 36 = .ok (.if_icmp .ne 19, 3) := by decide +kernel
theorem d_T_append_39 : decode b_T_append 39 = .ok (.aload_n 0, 1) := by decide +kernel
theorem d_T_append_40 : decode b_T_append 40 = .ok (.aload_n 0, 1) := by decide +kernel
theorem d_T_append_41 : decode b_T_append 41 = .ok (.getfield 32, 3) := by decide +kernel
theorem d_T_append_44 : decode b_T_append 44 = .ok (.ifCond .ne 7, 3) := by decide +kernel
theorem d_T_append_47 : decode b_T_append 47 = .ok (.iconst 1, 1) := by decide +kernel
theorem d_T_append_48 : decode b_T_append 48 = .ok (.goto 4, 3) := by decide +kernel
theorem d_T_append_51 : decode b_T_append 51 = .ok (.iconst 0, 1) := by decide +kernel
theorem d_T_append_52 : decode b_T_append 52 = .ok (.putfield 32, 3) := by decide +kernel
theorem d_T_append_55 : decode b_T_append 55 = .ok (.iload 5, 2) := by decide +kernel
theorem d_T_append_57 : decode b_T_append 57 = .ok (.bipush 32, 2) := by decide +kernel
theorem d_T_append_59 : decode b_T_append 59 = .ok (.if_icmp .ne 13, 3) := by decide +kernel
theorem d_T_append_62 : decode b_T_append 62 = .ok (.aload_n 0, 1) := by decide +kernel
theorem d_T_append_63 : decode b_T_append 63 = .ok (.getfield 32, 3) := by decide +kernel
theorem d_T_append_66 : decode b_T_append 66 = .ok (.ifCond .ne 6, 3) := by decide +kernel
theorem d_T_append_69 : decode b_T_append 69 = .ok (.goto 45, 3) := by decide +kernel
theorem d_T_append_72 : decode b_T_append 72 = .ok (.aload_n 0, 1) := by decide +kernel
theorem d_T_append_73 : decode b_T_append 73 = .ok (.getfield 25, 3) := by decide +kernel
theorem d_T_append_76 : decode b_T_append 76 = .ok (.bipush 80, 2) := by decide +kernel
theorem d_T_append_78 : decode b_T_append 78 = .ok (.if_icmp .lt 15, 3) := by decide +kernel
theorem d_T_append_81 : decode b_T_append 81 = .ok (.aload_n 0, 1) := by decide +kernel
theorem d_T_append_82 : decode b_T_append 82 = .ok (.iload_n 2, 1) := by decide +kernel
theorem d_T_append_83 : decode b_T_append 83 = .ok (.putfield 25, 3) := by decide +kernel
theorem d_T_append_86 : decode b_T_append 86 = .ok (.aload_n 0, 1) := by decide +kernel
theorem d_T_append_87 : decode b_T_append 87 = .ok (.iload_n 3, 1) := by decide +kernel
theorem d_T_append_88 : decode b_T_append 88 = .ok (.putfield 32, 3) := by decide +kernel
theorem d_T_append_91 : decode b_T_append 91 = .ok (.iconst 0, 1) := by decide +kernel
theorem d_T_append_92 : decode b_T_append 92 = .ok (.ireturn, 1) := by decide +kernel
theorem d_T_append_93 : decode b_T_append 93 = .ok (.aload_n 0, 1) := by decide +kernel
theorem d_T_append_94 : decode b_T_append 94 = .ok (.getfield 9, 3) := by decide +kernel
theorem d_T_append_97 : decode b_T_append 97 = .ok (.aload_n 0, 1) := by decide +kernel
theorem d_T_append_98 : decode b_T_append 98 = .ok (.getfield 25, 3) := by decide +kernel
theorem d_T_append_101 : decode b_T_append 101 = .ok (.iload 5, 2) := by decide +kernel
theorem d_T_append_103 : decode b_T_append 103 = .ok (.castore, 1) := by decide +kernel
theorem d_T_append_104 : decode b_T_append 104 = .ok (.aload_n 0, 1) := by decide +kernel
theorem d_T_append_105 : decode b_T_append 105 = .ok (.dup, 1) := by decide +kernel
theorem d_T_append_106 : decode b_T_append 106 = .ok (.getfield 25, 3) := by decide +kernel
theorem d_T_append_109 : decode b_T_append 109 = .ok (.iconst 1, 1) := by decide +kernel
theorem d_T_append_110 : decode b_T_append 110 = .ok (.iadd, 1) := by decide +kernel
theorem d_T_append_111 : decode b_T_append 111 = .ok (.putfield 25, 3) := by decide +kernel
theorem d_T_append_114 : decode b_T_append 114 = .ok (.iinc 4 1, 3) := by decide +kernel
theorem d_T_append_117 : decode b_T_append 117 = .ok (.goto (-103), 3) := by decide +kernel
theorem d_T_append_120 : decode b_T_append 120 = .ok (.iconst 1, 1) := by decide +kernel
theorem d_T_append_121 : decode b_T_append 121 = .ok (.ireturn, 1) := by decide +kernel
abbrev y_T_goBackTo : MethodName := ⟨"DeckFront$Tape", "goBackTo", "(I)V"⟩
abbrev b_T_goBackTo : ByteArray := prog_6_method_4_code
abbrev w_T_goBackTo : List Cond := (Jvm.Cond.code ({ cls := "DeckFront$Tape", name := "goBackTo", desc := "(I)V" } : Jvm.MethodName) prog_6_method_4_code (3 : Nat) (Option.none : Option Jvm.ClassFile.FieldType)) :: wG
theorem d_T_goBackTo_0 : decode b_T_goBackTo 0 = .ok (.iload_n 1, 1) := by decide +kernel
theorem d_T_goBackTo_1 : decode b_T_goBackTo 1 = .ok (.istore_n 2, 1) := by decide +kernel
theorem d_T_goBackTo_2 : decode b_T_goBackTo 2 = .ok (.iload_n 2, 1) := by decide +kernel
theorem d_T_goBackTo_3 : decode b_T_goBackTo 3 = .ok (.aload_n 0, 1) := by decide +kernel
theorem d_T_goBackTo_4 : decode b_T_goBackTo 4 = .ok (.getfield 29, 3) := by decide +kernel
theorem d_T_goBackTo_7 : decode b_T_goBackTo 7 = .ok (.if_icmp .ge 38, 3) := by decide +kernel
theorem d_T_goBackTo_10 : decode b_T_goBackTo 10 = .ok (.iload_n 2, 1) := by decide +kernel
theorem d_T_goBackTo_11 : decode b_T_goBackTo 11 = .ok (.aload_n 0, 1) := by decide +kernel
theorem d_T_goBackTo_12 : decode b_T_goBackTo 12 = .ok (.getfield 25, 3) := by decide +kernel
theorem d_T_goBackTo_15 : decode b_T_goBackTo 15 = .ok (.if_icmp .ge 30, 3) := by decide +kernel
theorem d_T_goBackTo_18 : decode b_T_goBackTo 18 = .ok (.aload_n 0, 1) := by decide +kernel
theorem d_T_goBackTo_19 : decode b_T_goBackTo 19 = .ok (.getfield 15, 3) := by decide +kernel
theorem d_T_goBackTo_22 : decode b_T_goBackTo 22 = .ok (.iload_n 2, 1) := by decide +kernel
theorem d_T_goBackTo_23 : decode b_T_goBackTo 23 = .ok (.iconst 0, 1) := by decide +kernel
theorem d_T_goBackTo_24 : decode b_T_goBackTo 24 = .ok (.iastore, 1) := by decide +kernel
theorem d_T_goBackTo_25 : decode b_T_goBackTo 25 = .ok (.aload_n 0, 1) := by decide +kernel
theorem d_T_goBackTo_26 : decode b_T_goBackTo 26 = .ok (.getfield 19, 3) := by decide +kernel
theorem d_T_goBackTo_29 : decode b_T_goBackTo 29 = .ok (.iload_n 2, 1) := by decide +kernel
theorem d_T_goBackTo_30 : decode b_T_goBackTo 30 = .ok (.iconst 0, 1) := by decide +kernel
theorem d_T_goBackTo_31 : decode b_T_goBackTo 31 = .ok (.iastore, 1) := by decide +kernel
theorem d_T_goBackTo_32 : decode b_T_goBackTo 32 = .ok (.aload_n 0, 1) := by decide +kernel
theorem d_T_goBackTo_33 : decode b_T_goBackTo 33 = .ok (.getfield 22, 3) := by decide +kernel
theorem d_T_goBackTo_36 : decode b_T_goBackTo 36 = .ok (.iload_n 2, 1) := by decide +kernel
theorem d_T_goBackTo_37 : decode b_T_goBackTo 37 = .ok (.iconst 0, 1) := by decide +kernel
theorem d_T_goBackTo_38 : decode b_T_goBackTo 38 = .ok (.iastore, 1) := by decide +kernel
theorem d_T_goBackTo_39 : decode b_T_goBackTo 39 = .ok (.iinc 2 1, 3) := by decide +kernel
theorem d_T_goBackTo_42 : decode b_T_goBackTo 42 = .ok (.goto (-40), 3) := by decide +kernel
theorem d_T_goBackTo_45 : decode b_T_goBackTo 45 = .ok (.aload_n 0, 1) := by decide +kernel
theorem d_T_goBackTo_46 : decode b_T_goBackTo 46 = .ok (.iload_n 1, 1) := by decide +kernel
theorem d_T_goBackTo_47 : decode b_T_goBackTo 47 = .ok (.putfield 29, 3) := by decide +kernel
theorem d_T_goBackTo_50 : decode b_T_goBackTo 50 = .ok (.return_, 1) := by decide +kernel
abbrev y_T_isNext : MethodName := ⟨"DeckFront$Tape", "isNext", "(C)Z"⟩
abbrev b_T_isNext : ByteArray := prog_6_method_5_code
abbrev w_T_isNext : List Cond := (Jvm.Cond.code ({ cls := "DeckFront$Tape", name := "isNext", desc := "(C)Z" } : Jvm.MethodName) prog_6_method_5_code (2 : Nat) (Option.some Jvm.ClassFile.FieldType.boolean)) :: wG
theorem d_T_isNext_0 : decode b_T_isNext 0 = .ok (.aload_n 0, 1) := by decide +kernel
theorem d_T_isNext_1 : decode b_T_isNext 1 = .ok (.getfield 29, 3) := by decide +kernel
theorem d_T_isNext_4 : decode b_T_isNext 4 = .ok (.aload_n 0, 1) := by decide +kernel
theorem d_T_isNext_5 : decode b_T_isNext 5 = .ok (.getfield 25, 3) := by decide +kernel
theorem d_T_isNext_8 : decode b_T_isNext 8 = .ok (.if_icmp .ge 20, 3) := by decide +kernel
theorem d_T_isNext_11 : decode b_T_isNext 11 = .ok (.aload_n 0, 1) := by decide +kernel
theorem d_T_isNext_12 : decode b_T_isNext 12 = .ok (.getfield 9, 3) := by decide +kernel
theorem d_T_isNext_15 : decode b_T_isNext 15 = .ok (.aload_n 0, 1) := by decide +kernel
theorem d_T_isNext_16 : decode b_T_isNext 16 = .ok (.getfield 29, 3) := by decide +kernel
theorem d_T_isNext_19 : decode b_T_isNext 19 = .ok (.caload, 1) := by decide +kernel
theorem d_T_isNext_20 : decode b_T_isNext 20 = .ok (.iload_n 1, 1) := by decide +kernel
theorem d_T_isNext_21 : decode b_T_isNext 21 = .ok (.if_icmp .ne 7, 3) := by decide +kernel
theorem d_T_isNext_24 : decode b_T_isNext 24 = .ok (.iconst 1, 1) := by decide +kernel
theorem d_T_isNext_25 : decode b_T_isNext 25 = .ok (.goto 4, 3) := by decide +kernel
theorem d_T_isNext_28 : decode b_T_isNext 28 = .ok (.iconst 0, 1) := by decide +kernel
theorem d_T_isNext_29 : decode b_T_isNext 29 = .ok (.ireturn, 1) := by decide +kernel
abbrev y_T_stands : MethodName := ⟨"DeckFront$Tape", "stands", "(ILjava/lang/String;)Z"⟩
abbrev b_T_stands : ByteArray := prog_6_method_6_code
abbrev w_T_stands : List Cond := (Jvm.Cond.code ({ cls := "DeckFront$Tape", name := "stands", desc := "(ILjava/lang/String;)Z" } : Jvm.MethodName) prog_6_method_6_code (4 : Nat) (Option.some Jvm.ClassFile.FieldType.boolean)) :: wG
theorem d_T_stands_0 : decode b_T_stands 0 = .ok (.iload_n 1, 1) := by decide +kernel
theorem d_T_stands_1 : decode b_T_stands 1 = .ok (.aload_n 2, 1) := by decide +kernel
theorem d_T_stands_2 : decode b_T_stands 2 = .ok (.invokevirtual 42, 3) := by decide +kernel
theorem d_T_stands_5 : decode b_T_stands 5 = .ok (.iadd, 1) := by decide +kernel
theorem d_T_stands_6 : decode b_T_stands 6 = .ok (.aload_n 0, 1) := by decide +kernel
theorem d_T_stands_7 : decode b_T_stands 7 = .ok (.getfield 25, 3) := by decide +kernel
theorem d_T_stands_10 : decode b_T_stands 10 = .ok (.if_icmp .le 5, 3) := by decide +kernel
theorem d_T_stands_13 : decode b_T_stands 13 = .ok (.iconst 0, 1) := by decide +kernel
theorem d_T_stands_14 : decode b_T_stands 14 = .ok (.ireturn, 1) := by decide +kernel
theorem d_T_stands_15 : decode b_T_stands 15 = .ok (.iconst 0, 1) := by decide +kernel
theorem d_T_stands_16 : decode b_T_stands 16 = .ok (.istore_n 3, 1) := by decide +kernel
theorem d_T_stands_17 : decode b_T_stands 17 = .ok (.iload_n 3, 1) := by decide +kernel
theorem d_T_stands_18 : decode b_T_stands 18 = .ok (.aload_n 2, 1) := by decide +kernel
theorem d_T_stands_19 : decode b_T_stands 19 = .ok (.invokevirtual 42, 3) := by decide +kernel
theorem d_T_stands_22 : decode b_T_stands 22 = .ok (.if_icmp .ge 27, 3) := by decide +kernel
theorem d_T_stands_25 : decode b_T_stands 25 = .ok (.aload_n 0, 1) := by decide +kernel
theorem d_T_stands_26 : decode b_T_stands 26 = .ok (.getfield 9, 3) := by decide +kernel
theorem d_T_stands_29 : decode b_T_stands 29 = .ok (.iload_n 1, 1) := by decide +kernel
theorem d_T_stands_30 : decode b_T_stands 30 = .ok (.iload_n 3, 1) := by decide +kernel
theorem d_T_stands_31 : decode b_T_stands 31 = .ok (.iadd, 1) := by decide +kernel
theorem d_T_stands_32 : decode b_T_stands 32 = .ok (.caload, 1) := by decide +kernel
theorem d_T_stands_33 : decode b_T_stands 33 = .ok (.aload_n 2, 1) := by decide +kernel
theorem d_T_stands_34 : decode b_T_stands 34 = .ok (.iload_n 3, 1) := by decide +kernel
theorem d_T_stands_35 : decode b_T_stands 35 = .ok (.invokevirtual 47, 3) := by decide +kernel
theorem d_T_stands_38 : decode b_T_stands 38 = .ok (.if_icmp .eq 5, 3) := by decide +kernel
theorem d_T_stands_41 : decode b_T_stands 41 = .ok (.iconst 0, 1) := by decide +kernel
theorem d_T_stands_42 : decode b_T_stands 42 = .ok (.ireturn, 1) := by decide +kernel
theorem d_T_stands_43 : decode b_T_stands 43 = .ok (.iinc 3 1, 3) := by decide +kernel
theorem d_T_stands_46 : decode b_T_stands 46 = .ok (.goto (-29), 3) := by decide +kernel
theorem d_T_stands_49 : decode b_T_stands 49 = .ok (.iconst 1, 1) := by decide +kernel
theorem d_T_stands_50 : decode b_T_stands 50 = .ok (.ireturn, 1) := by decide +kernel
abbrev y_T_take : MethodName := ⟨"DeckFront$Tape", "take", "(Ljava/lang/String;)Z"⟩
abbrev b_T_take : ByteArray := prog_6_method_7_code
abbrev w_T_take : List Cond := (Jvm.Cond.code ({ cls := "DeckFront$Tape", name := "take", desc := "(Ljava/lang/String;)Z" } : Jvm.MethodName) prog_6_method_7_code (2 : Nat) (Option.some Jvm.ClassFile.FieldType.boolean)) :: wG
theorem d_T_take_0 : decode b_T_take 0 = .ok (.aload_n 0, 1) := by decide +kernel
theorem d_T_take_1 : decode b_T_take 1 = .ok (.aload_n 0, 1) := by decide +kernel
theorem d_T_take_2 : decode b_T_take 2 = .ok (.getfield 29, 3) := by decide +kernel
theorem d_T_take_5 : decode b_T_take 5 = .ok (.aload_n 1, 1) := by decide +kernel
theorem d_T_take_6 : decode b_T_take 6 = .ok (.invokevirtual 51, 3) := by decide +kernel
theorem d_T_take_9 : decode b_T_take 9 = .ok (.ifCond .ne 5, 3) := by decide +kernel
theorem d_T_take_12 : decode b_T_take 12 = .ok (.iconst 0, 1) := by decide +kernel
theorem d_T_take_13 : decode b_T_take 13 = .ok (.ireturn, 1) := by decide +kernel
theorem d_T_take_14 : decode b_T_take 14 = .ok (.aload_n 0, 1) := by decide +kernel
theorem d_T_take_15 : decode b_T_take 15 = .ok (.dup, 1) := by decide +kernel
theorem d_T_take_16 : decode b_T_take 16 = .ok (.getfield 29, 3) := by decide +kernel
theorem d_T_take_19 : decode b_T_take 19 = .ok (.aload_n 1, 1) := by decide +kernel
theorem d_T_take_20 : decode b_T_take 20 = .ok (.invokevirtual 42, 3) := by decide +kernel
theorem d_T_take_23 : decode b_T_take 23 = .ok (.iadd, 1) := by decide +kernel
theorem d_T_take_24 : decode b_T_take 24 = .ok (.putfield 29, 3) := by decide +kernel
theorem d_T_take_27 : decode b_T_take 27 = .ok (.iconst 1, 1) := by decide +kernel
theorem d_T_take_28 : decode b_T_take 28 = .ok (.ireturn, 1) := by decide +kernel
abbrev y_T_takeIdleComma : MethodName := ⟨"DeckFront$Tape", "takeIdleComma", "()Z"⟩
abbrev b_T_takeIdleComma : ByteArray := prog_6_method_8_code
abbrev w_T_takeIdleComma : List Cond := (Jvm.Cond.code ({ cls := "DeckFront$Tape", name := "takeIdleComma", desc := "()Z" } : Jvm.MethodName) prog_6_method_8_code (1 : Nat) (Option.some Jvm.ClassFile.FieldType.boolean)) :: wG
theorem d_T_takeIdleComma_0 : decode b_T_takeIdleComma 0 = .ok (.aload_n 0, 1) := by decide +kernel
theorem d_T_takeIdleComma_1 : decode b_T_takeIdleComma 1 = .ok (.bipush 44, 2) := by decide +kernel
theorem d_T_takeIdleComma_3 : decode b_T_takeIdleComma 3 = .ok (.invokevirtual 55, 3) := by decide +kernel
theorem d_T_takeIdleComma_6 : decode b_T_takeIdleComma 6 = .ok (.ifCond .eq 23, 3) := by decide +kernel
theorem d_T_takeIdleComma_9 : decode b_T_takeIdleComma 9 = .ok (.aload_n 0, 1) := by decide +kernel
theorem d_T_takeIdleComma_10 : decode b_T_takeIdleComma 10 = .ok (.getfield 22, 3) := by decide +kernel
theorem d_T_takeIdleComma_13 : decode b_T_takeIdleComma 13 = .ok (.aload_n 0, 1) := by decide +kernel
theorem d_T_takeIdleComma_14 : decode b_T_takeIdleComma 14 = .ok (.getfield 29, 3) := by decide +kernel
theorem d_T_takeIdleComma_17 : decode b_T_takeIdleComma 17 = .ok (.iconst 5, 1) := by decide +kernel
theorem d_T_takeIdleComma_18 : decode b_T_takeIdleComma 18 = .ok (.iastore, 1) := by decide +kernel
theorem d_T_takeIdleComma_19 : decode b_T_takeIdleComma 19 = .ok (.aload_n 0, 1) := by decide +kernel
theorem d_T_takeIdleComma_20 : decode b_T_takeIdleComma 20 = .ok (.dup, 1) := by decide +kernel
theorem d_T_takeIdleComma_21 : decode b_T_takeIdleComma 21 = .ok (.getfield 29, 3) := by decide +kernel
theorem d_T_takeIdleComma_24 : decode b_T_takeIdleComma 24 = .ok (.iconst 1, 1) := by decide +kernel
theorem d_T_takeIdleComma_25 : decode b_T_takeIdleComma 25 = .ok (.iadd, 1) := by decide +kernel
theorem d_T_takeIdleComma_26 : decode b_T_takeIdleComma 26 = .ok (.putfield 29, 3) := by decide +kernel
theorem d_T_takeIdleComma_29 : decode b_T_takeIdleComma 29 = .ok (.iconst 1, 1) := by decide +kernel
theorem d_T_takeIdleComma_30 : decode b_T_takeIdleComma 30 = .ok (.ireturn, 1) := by decide +kernel
abbrev y_T_takeDigits : MethodName := ⟨"DeckFront$Tape", "takeDigits", "(II)Z"⟩
abbrev b_T_takeDigits : ByteArray := prog_6_method_9_code
abbrev w_T_takeDigits : List Cond := (Jvm.Cond.code ({ cls := "DeckFront$Tape", name := "takeDigits", desc := "(II)Z" } : Jvm.MethodName) prog_6_method_9_code (5 : Nat) (Option.some Jvm.ClassFile.FieldType.boolean)) :: wG
theorem d_T_takeDigits_0 : decode b_T_takeDigits 0 = .ok (.aload_n 0, 1) := by decide +kernel
theorem d_T_takeDigits_1 : decode b_T_takeDigits 1 = .ok (.getfield 29, 3) := by decide +kernel
theorem d_T_takeDigits_4 : decode b_T_takeDigits 4 = .ok (.istore_n 3, 1) := by decide +kernel
theorem d_T_takeDigits_5 : decode b_T_takeDigits 5 = .ok (.iconst 0, 1) := by decide +kernel
theorem d_T_takeDigits_6 : decode b_T_takeDigits 6 = .ok (.istore 4, 2) := by decide +kernel
theorem d_T_takeDigits_8 : decode b_T_takeDigits 8 = .ok (.iload 4, 2) := by decide +kernel
theorem d_T_takeDigits_10 : decode b_T_takeDigits 10 = .ok (.iload_n 1, 1) := by decide +kernel
theorem d_T_takeDigits_11 : decode b_T_takeDigits 11 = .ok (.if_icmp .ge 45, 3) := by decide +kernel
theorem d_T_takeDigits_14 : decode b_T_takeDigits 14 = .ok (.aload_n 0, 1) := by decide +kernel
theorem d_T_takeDigits_15 : decode b_T_takeDigits 15 = .ok (.getfield 29, 3) := by decide +kernel
theorem d_T_takeDigits_18 : decode b_T_takeDigits 18 = .ok (.aload_n 0, 1) := by decide +kernel
theorem d_T_takeDigits_19 : decode b_T_takeDigits 19 = .ok (.getfield 25, 3) := by decide +kernel
theorem d_T_takeDigits_22 : decode b_T_takeDigits 22 = .ok (.if_icmp .ge 34, 3) := by decide +kernel
theorem d_T_takeDigits_25 : decode b_T_takeDigits 25 = .ok (.aload_n 0, 1) := by decide +kernel
theorem d_T_takeDigits_26 : decode b_T_takeDigits 26 = .ok (.getfield 9, 3) := by decide +kernel
theorem d_T_takeDigits_29 : decode b_T_takeDigits 29 = .ok (.aload_n 0, 1) := by decide +kernel
theorem d_T_takeDigits_30 : decode b_T_takeDigits 30 = .ok (.getfield 29, 3) := by decide +kernel
theorem d_T_takeDigits_33 : decode b_T_takeDigits 33 = .ok (.caload, 1) := by decide +kernel
theorem d_T_takeDigits_34 : decode b_T_takeDigits 34 = .ok (.invokestatic 59, 3) := by decide +kernel
theorem d_T_takeDigits_37 : decode b_T_takeDigits 37 = .ok (.ifCond .eq 19, 3) := by decide +kernel
theorem d_T_takeDigits_40 : decode b_T_takeDigits 40 = .ok (.aload_n 0, 1) := by decide +kernel
theorem d_T_takeDigits_41 : decode b_T_takeDigits 41 = .ok (.dup, 1) := by decide +kernel
theorem d_T_takeDigits_42 : decode b_T_takeDigits 42 = .ok (.getfield 29, 3) := by decide +kernel
theorem d_T_takeDigits_45 : decode b_T_takeDigits 45 = .ok (.iconst 1, 1) := by decide +kernel
theorem d_T_takeDigits_46 : decode b_T_takeDigits 46 = .ok (.iadd, 1) := by decide +kernel
theorem d_T_takeDigits_47 : decode b_T_takeDigits 47 = .ok (.putfield 29, 3) := by decide +kernel
theorem d_T_takeDigits_50 : decode b_T_takeDigits 50 = .ok (.iinc 4 1, 3) := by decide +kernel
theorem d_T_takeDigits_53 : decode b_T_takeDigits 53 = .ok (.goto (-45), 3) := by decide +kernel
theorem d_T_takeDigits_56 : decode b_T_takeDigits 56 = .ok (.aload_n 0, 1) := by decide +kernel
theorem d_T_takeDigits_57 : decode b_T_takeDigits 57 = .ok (.getfield 29, 3) := by decide +kernel
theorem d_T_takeDigits_60 : decode b_T_takeDigits 60 = .ok (.iload_n 3, 1) := by decide +kernel
theorem d_T_takeDigits_61 : decode b_T_takeDigits 61 = .ok (.if_icmp .ne 5, 3) := by decide +kernel
theorem d_T_takeDigits_64 : decode b_T_takeDigits 64 = .ok (.iconst 0, 1) := by decide +kernel
theorem d_T_takeDigits_65 : decode b_T_takeDigits 65 = .ok (.ireturn, 1) := by decide +kernel
theorem d_T_takeDigits_66 : decode b_T_takeDigits 66 = .ok (.iload_n 3, 1) := by decide +kernel
theorem d_T_takeDigits_67 : decode b_T_takeDigits 67 = .ok (.aload_n 0, 1) := by decide +kernel
theorem d_T_takeDigits_68 : decode b_T_takeDigits 68 = .ok (.getfield 29, 3) := by decide +kernel
theorem d_T_takeDigits_71 : decode b_T_takeDigits 71 = .ok (.iconst 1, 1) := by decide +kernel
theorem d_T_takeDigits_72 : decode b_T_takeDigits 72 = .ok (.isub, 1) := by decide +kernel
theorem d_T_takeDigits_73 : decode b_T_takeDigits 73 = .ok (.if_icmp .ge 27, 3) := by decide +kernel
theorem d_T_takeDigits_76 : decode b_T_takeDigits 76 = .ok (.aload_n 0, 1) := by decide +kernel
theorem d_T_takeDigits_77 : decode b_T_takeDigits 77 = .ok (.getfield 9, 3) := by decide +kernel
theorem d_T_takeDigits_80 : decode b_T_takeDigits 80 = .ok (.iload_n 3, 1) := by decide +kernel
theorem d_T_takeDigits_81 : decode b_T_takeDigits 81 = .ok (.caload, 1) := by decide +kernel
theorem d_T_takeDigits_82 : decode b_T_takeDigits 82 = .ok (.bipush 48, 2) := by decide +kernel
theorem d_T_takeDigits_84 : decode b_T_takeDigits 84 = .ok (.if_icmp .ne 16, 3) := by decide +kernel
theorem d_T_takeDigits_87 : decode b_T_takeDigits 87 = .ok (.aload_n 0, 1) := by decide +kernel
theorem d_T_takeDigits_88 : decode b_T_takeDigits 88 = .ok (.getfield 22, 3) := by decide +kernel
theorem d_T_takeDigits_91 : decode b_T_takeDigits 91 = .ok (.iload_n 3, 1) := by decide +kernel
theorem d_T_takeDigits_92 : decode b_T_takeDigits 92 = .ok (.iconst 5, 1) := by decide +kernel
theorem d_T_takeDigits_93 : decode b_T_takeDigits 93 = .ok (.iastore, 1) := by decide +kernel
theorem d_T_takeDigits_94 : decode b_T_takeDigits 94 = .ok (.iinc 3 1, 3) := by decide +kernel
theorem d_T_takeDigits_97 : decode b_T_takeDigits 97 = .ok (.goto (-31), 3) := by decide +kernel
theorem d_T_takeDigits_100 : decode b_T_takeDigits 100 = .ok (.aload_n 0, 1) := by decide +kernel
theorem d_T_takeDigits_101 : decode b_T_takeDigits 101 = .ok (.getfield 22, 3) := by decide +kernel
theorem d_T_takeDigits_104 : decode b_T_takeDigits 104 = .ok (.iload_n 3, 1) := by decide +kernel
theorem d_T_takeDigits_105 : decode b_T_takeDigits 105 = .ok (.iload_n 2, 1) := by decide +kernel
theorem d_T_takeDigits_106 : decode b_T_takeDigits 106 = .ok (.iastore, 1) := by decide +kernel
theorem d_T_takeDigits_107 : decode b_T_takeDigits 107 = .ok (.iconst 1, 1) := by decide +kernel
theorem d_T_takeDigits_108 : decode b_T_takeDigits 108 = .ok (.ireturn, 1) := by decide +kernel
abbrev y_T_takeName : MethodName := ⟨"DeckFront$Tape", "takeName", "(I)Z"⟩
abbrev b_T_takeName : ByteArray := prog_6_method_10_code
abbrev w_T_takeName : List Cond := (Jvm.Cond.code ({ cls := "DeckFront$Tape", name := "takeName", desc := "(I)Z" } : Jvm.MethodName) prog_6_method_10_code (4 : Nat) (Option.some Jvm.ClassFile.FieldType.boolean)) :: wG
theorem d_T_takeName_0 : decode b_T_takeName 0 = .ok (.aload_n 0, 1) := by decide +kernel
theorem d_T_takeName_1 : decode b_T_takeName 1 = .ok (.getfield 29, 3) := by decide +kernel
theorem d_T_takeName_4 : decode b_T_takeName 4 = .ok (.istore_n 2, 1) := by decide +kernel
theorem d_T_takeName_5 : decode b_T_takeName 5 = .ok (.aload_n 0, 1) := by decide +kernel
theorem d_T_takeName_6 : decode b_T_takeName 6 = .ok (.getfield 29, 3) := by decide +kernel
theorem d_T_takeName_9 : decode b_T_takeName 9 = .ok (.aload_n 0, 1) := by decide +kernel
theorem d_T_takeName_10 : decode b_T_takeName 10 = .ok (.getfield 25, 3) := by decide +kernel
theorem d_T_takeName_13 : decode b_T_takeName 13 = .ok (.if_icmp .ge 18, 3) := by decide +kernel
theorem d_T_takeName_16 : decode b_T_takeName 16 = .ok (.aload_n 0, 1) := by decide +kernel
theorem d_T_takeName_17 : decode b_T_takeName 17 = .ok (.getfield 9, 3) := by decide +kernel
theorem d_T_takeName_20 : decode b_T_takeName 20 = .ok (.aload_n 0, 1) := by decide +kernel
theorem d_T_takeName_21 : decode b_T_takeName 21 = .ok (.getfield 29, 3) := by decide +kernel
theorem d_T_takeName_24 : decode b_T_takeName 24 = .ok (.caload, 1) := by decide +kernel
theorem d_T_takeName_25 : decode b_T_takeName 25 = .ok (.invokestatic 63, 3) := by decide +kernel
theorem d_T_takeName_28 : decode b_T_takeName 28 = .ok (.ifCond .ne 5, 3) := by decide +kernel
theorem d_T_takeName_31 : decode b_T_takeName 31 = .ok (.iconst 0, 1) := by decide +kernel
theorem d_T_takeName_32 : decode b_T_takeName 32 = .ok (.ireturn, 1) := by decide +kernel
theorem d_T_takeName_33 : decode b_T_takeName 33 = .ok (.iconst 0, 1) := by decide +kernel
theorem d_T_takeName_34 : decode b_T_takeName 34 = .ok (.istore_n 3, 1) := by decide +kernel
theorem d_T_takeName_35 : decode b_T_takeName 35 = .ok (.iload_n 3, 1) := by decide +kernel
theorem d_T_takeName_36 : decode b_T_takeName 36 = .ok (.bipush 6, 2) := by decide +kernel
theorem d_T_takeName_38 : decode b_T_takeName 38 = .ok (.if_icmp .ge 63, 3) := by decide +kernel
theorem d_T_takeName_41 : decode b_T_takeName 41 = .ok (.aload_n 0, 1) := by decide +kernel
theorem d_T_takeName_42 : decode b_T_takeName 42 = .ok (.getfield 29, 3) := by decide +kernel
theorem d_T_takeName_45 : decode b_T_takeName 45 = .ok (.aload_n 0, 1) := by decide +kernel
theorem d_T_takeName_46 : decode b_T_takeName 46 = .ok (.getfield 25, 3) := by decide +kernel
theorem d_T_takeName_49 : decode b_T_takeName 49 = .ok (.if_icmp .ge 52, 3) := by decide +kernel
theorem d_T_takeName_52 : decode b_T_takeName 52 = .ok (.aload_n 0, 1) := by decide +kernel
theorem d_T_takeName_53 : decode b_T_takeName 53 = .ok (.getfield 9, 3) := by decide +kernel
theorem d_T_takeName_56 : decode b_T_takeName 56 = .ok (.aload_n 0, 1) := by decide +kernel
theorem d_T_takeName_57 : decode b_T_takeName 57 = .ok (.getfield 29, 3) := by decide +kernel
theorem d_T_takeName_60 : decode b_T_takeName 60 = .ok (.caload, 1) := by decide +kernel
theorem d_T_takeName_61 : decode b_T_takeName 61 = .ok (.invokestatic 63, 3) := by decide +kernel
theorem d_T_takeName_64 : decode b_T_takeName 64 = .ok (.ifCond .ne 21, 3) := by decide +kernel
theorem d_T_takeName_67 : decode b_T_takeName 67 = .ok (.aload_n 0, 1) := by decide +kernel
theorem d_T_takeName_68 : decode b_T_takeName 68 = .ok (.getfield 9, 3) := by decide +kernel
theorem d_T_takeName_71 : decode b_T_takeName 71 = .ok (.aload_n 0, 1) := by decide +kernel
theorem d_T_takeName_72 : decode b_T_takeName 72 = .ok (.getfield 29, 3) := by decide +kernel
theorem d_T_takeName_75 : decode b_T_takeName 75 = .ok (.caload, 1) := by decide +kernel
theorem d_T_takeName_76 : decode b_T_takeName 76 = .ok (.invokestatic 59, 3) := by decide +kernel
theorem d_T_takeName_79 : decode b_T_takeName 79 = .ok (.ifCond .ne 6, 3) := by decide +kernel
theorem d_T_takeName_82 : decode b_T_takeName 82 = .ok (.goto 19, 3) := by decide +kernel
theorem d_T_takeName_85 : decode b_T_takeName 85 = .ok (.aload_n 0, 1) := by decide +kernel
theorem d_T_takeName_86 : decode b_T_takeName 86 = .ok (.dup, 1) := by decide +kernel
theorem d_T_takeName_87 : decode b_T_takeName 87 = .ok (.getfield 29, 3) := by decide +kernel
theorem d_T_takeName_90 : decode b_T_takeName 90 = .ok (.iconst 1, 1) := by decide +kernel
theorem d_T_takeName_91 : decode b_T_takeName 91 = .ok (.iadd, 1) := by decide +kernel
theorem d_T_takeName_92 : decode b_T_takeName 92 = .ok (.putfield 29, 3) := by decide +kernel
theorem d_T_takeName_95 : decode b_T_takeName 95 = .ok (.iinc 3 1, 3) := by decide +kernel
theorem d_T_takeName_98 : decode b_T_takeName 98 = .ok (.goto (-63), 3) := by decide +kernel
theorem d_T_takeName_101 : decode b_T_takeName 101 = .ok (.aload_n 0, 1) := by decide +kernel
theorem d_T_takeName_102 : decode b_T_takeName 102 = .ok (.getfield 22, 3) := by decide +kernel
theorem d_T_takeName_105 : decode b_T_takeName 105 = .ok (.iload_n 2, 1) := by decide +kernel
theorem d_T_takeName_106 : decode b_T_takeName 106 = .ok (.iload_n 1, 1) := by decide +kernel
theorem d_T_takeName_107 : decode b_T_takeName 107 = .ok (.iastore, 1) := by decide +kernel
theorem d_T_takeName_108 : decode b_T_takeName 108 = .ok (.iconst 1, 1) := by decide +kernel
theorem d_T_takeName_109 : decode b_T_takeName 109 = .ok (.ireturn, 1) := by decide +kernel
abbrev y_T_takeQuote : MethodName := ⟨"DeckFront$Tape", "takeQuote", "()Z"⟩
abbrev b_T_takeQuote : ByteArray := prog_6_method_11_code
abbrev w_T_takeQuote : List Cond := (Jvm.Cond.code ({ cls := "DeckFront$Tape", name := "takeQuote", desc := "()Z" } : Jvm.MethodName) prog_6_method_11_code (2 : Nat) (Option.some Jvm.ClassFile.FieldType.boolean)) :: wG
theorem d_T_takeQuote_0 : decode b_T_takeQuote 0 = .ok (.aload_n 0, 1) := by decide +kernel
theorem d_T_takeQuote_1 : decode b_T_takeQuote 1 = .ok (.bipush 39, 2) := by decide +kernel
theorem d_T_takeQuote_3 : decode b_T_takeQuote 3 = .ok (.invokevirtual 55, 3) := by decide +kernel
theorem d_T_takeQuote_6 : decode b_T_takeQuote 6 = .ok (.ifCond .ne 5, 3) := by decide +kernel
theorem d_T_takeQuote_9 : decode b_T_takeQuote 9 = .ok (.iconst 0, 1) := by decide +kernel
theorem d_T_takeQuote_10 : decode b_T_takeQuote 10 = .ok (.ireturn, 1) := by decide +kernel
theorem d_T_takeQuote_11 : decode b_T_takeQuote 11 = .ok (.aload_n 0, 1) := by decide +kernel
theorem d_T_takeQuote_12 : decode b_T_takeQuote 12 = .ok (.getfield 29, 3) := by decide +kernel
theorem d_T_takeQuote_15 : decode b_T_takeQuote 15 = .ok (.iconst 1, 1) := by decide +kernel
theorem d_T_takeQuote_16 : decode b_T_takeQuote 16 = .ok (.iadd, 1) := by decide +kernel
theorem d_T_takeQuote_17 : decode b_T_takeQuote 17 = .ok (.istore_n 1, 1) := by decide +kernel
theorem d_T_takeQuote_18 : decode b_T_takeQuote 18 = .ok (.iload_n 1, 1) := by decide +kernel
theorem d_T_takeQuote_19 : decode b_T_takeQuote 19 = .ok (.aload_n 0, 1) := by decide +kernel
theorem d_T_takeQuote_20 : decode b_T_takeQuote 20 = .ok (.getfield 25, 3) := by decide +kernel
theorem d_T_takeQuote_23 : decode b_T_takeQuote 23 = .ok (.if_icmp .ge 29, 3) := by decide +kernel
theorem d_T_takeQuote_26 : decode b_T_takeQuote 26 = .ok (.aload_n 0, 1) := by decide +kernel
theorem d_T_takeQuote_27 : decode b_T_takeQuote 27 = .ok (.getfield 9, 3) := by decide +kernel
theorem d_T_takeQuote_30 : decode b_T_takeQuote 30 = .ok (.iload_n 1, 1) := by decide +kernel
theorem d_T_takeQuote_31 : decode b_T_takeQuote 31 = .ok (.caload, 1) := by decide +kernel
theorem d_T_takeQuote_32 : decode b_T_takeQuote 32 = .ok (.bipush 39, 2) := by decide +kernel
theorem d_T_takeQuote_34 : decode b_T_takeQuote 34 = .ok (.if_icmp .ne 12, 3) := by decide +kernel
theorem d_T_takeQuote_37 : decode b_T_takeQuote 37 = .ok (.aload_n 0, 1) := by decide +kernel
theorem d_T_takeQuote_38 : decode b_T_takeQuote 38 = .ok (.iload_n 1, 1) := by decide +kernel
theorem d_T_takeQuote_39 : decode b_T_takeQuote 39 = .ok (.iconst 1, 1) := by decide +kernel
theorem d_T_takeQuote_40 : decode b_T_takeQuote 40 = .ok (.iadd, 1) := by decide +kernel
theorem d_T_takeQuote_41 : decode b_T_takeQuote 41 = .ok (.putfield 29, 3) := by decide +kernel
theorem d_T_takeQuote_44 : decode b_T_takeQuote 44 = .ok (.iconst 1, 1) := by decide +kernel
theorem d_T_takeQuote_45 : decode b_T_takeQuote 45 = .ok (.ireturn, 1) := by decide +kernel
theorem d_T_takeQuote_46 : decode b_T_takeQuote 46 = .ok (.iinc 1 1, 3) := by decide +kernel
theorem d_T_takeQuote_49 : decode b_T_takeQuote 49 = .ok (.goto (-31), 3) := by decide +kernel
theorem d_T_takeQuote_52 : decode b_T_takeQuote 52 = .ok (.iconst 0, 1) := by decide +kernel
theorem d_T_takeQuote_53 : decode b_T_takeQuote 53 = .ok (.ireturn, 1) := by decide +kernel
abbrev y_T_takeDecimal : MethodName := ⟨"DeckFront$Tape", "takeDecimal", "()Z"⟩
abbrev b_T_takeDecimal : ByteArray := prog_6_method_12_code
abbrev w_T_takeDecimal : List Cond := (Jvm.Cond.code ({ cls := "DeckFront$Tape", name := "takeDecimal", desc := "()Z" } : Jvm.MethodName) prog_6_method_12_code (4 : Nat) (Option.some Jvm.ClassFile.FieldType.boolean)) :: wG
theorem d_T_takeDecimal_0 : decode b_T_takeDecimal 0 = .ok (.aload_n 0, 1) := by decide +kernel
theorem d_T_takeDecimal_1 : decode b_T_takeDecimal 1 = .ok (.aload_n 0, 1) := by decide +kernel
theorem d_T_takeDecimal_2 : decode b_T_takeDecimal 2 = .ok (.getfield 29, 3) := by decide +kernel
theorem d_T_takeDecimal_5 : decode b_T_takeDecimal 5 = .ok (.invokevirtual 66, 3) := by decide +kernel
theorem d_T_takeDecimal_8 : decode b_T_takeDecimal 8 = .ok (.istore_n 1, 1) := by decide +kernel
theorem d_T_takeDecimal_9 : decode b_T_takeDecimal 9 = .ok (.iload_n 1, 1) := by decide +kernel
theorem d_T_takeDecimal_10 : decode b_T_takeDecimal 10 = .ok (.aload_n 0, 1) := by decide +kernel
theorem d_T_takeDecimal_11 : decode b_T_takeDecimal 11 = .ok (.getfield 29, 3) := by decide +kernel
theorem d_T_takeDecimal_14 : decode b_T_takeDecimal 14 = .ok (.if_icmp .le 7, 3) := by decide +kernel
theorem d_T_takeDecimal_17 : decode b_T_takeDecimal 17 = .ok (.iconst 1, 1) := by decide +kernel
theorem d_T_takeDecimal_18 : decode b_T_takeDecimal 18 = .ok (.goto 4, 3) := by decide +kernel
theorem d_T_takeDecimal_21 : decode b_T_takeDecimal 21 = .ok (.iconst 0, 1) := by decide +kernel
theorem d_T_takeDecimal_22 : decode b_T_takeDecimal 22 = .ok (.istore_n 2, 1) := by decide +kernel
theorem d_T_takeDecimal_23 : decode b_T_takeDecimal 23 = .ok (.aload_n 0, 1) := by decide +kernel
theorem d_T_takeDecimal_24 : decode b_T_takeDecimal 24 = .ok (.iload_n 1, 1) := by decide +kernel
theorem d_T_takeDecimal_25 : decode b_T_takeDecimal 25 = .ok (.ldc 70, 2) := by decide +kernel
theorem d_T_takeDecimal_27 : decode b_T_takeDecimal 27 = .ok (.invokevirtual 51, 3) := by decide +kernel
theorem d_T_takeDecimal_30 : decode b_T_takeDecimal 30 = .ok (.ifCond .eq 34, 3) := by decide +kernel
theorem d_T_takeDecimal_33 : decode b_T_takeDecimal 33 = .ok (.aload_n 0, 1) := by decide +kernel
theorem d_T_takeDecimal_34 : decode b_T_takeDecimal 34 = .ok (.iload_n 1, 1) := by decide +kernel
theorem d_T_takeDecimal_35 : decode b_T_takeDecimal 35 = .ok (.invokevirtual 72, 3) := by decide +kernel
theorem d_T_takeDecimal_38 : decode b_T_takeDecimal 38 = .ok (.ifCond .ne 26, 3) := by decide +kernel
theorem d_T_takeDecimal_41 : decode b_T_takeDecimal 41 = .ok (.aload_n 0, 1) := by decide +kernel
theorem d_T_takeDecimal_42 : decode b_T_takeDecimal 42 = .ok (.iload_n 1, 1) := by decide +kernel
theorem d_T_takeDecimal_43 : decode b_T_takeDecimal 43 = .ok (.iconst 1, 1) := by decide +kernel
theorem d_T_takeDecimal_44 : decode b_T_takeDecimal 44 = .ok (.iadd, 1) := by decide +kernel
theorem d_T_takeDecimal_45 : decode b_T_takeDecimal 45 = .ok (.invokevirtual 66, 3) := by decide +kernel
theorem d_T_takeDecimal_48 : decode b_T_takeDecimal 48 = .ok (.istore_n 3, 1) := by decide +kernel
theorem d_T_takeDecimal_49 : decode b_T_takeDecimal 49 = .ok (.iload_n 2, 1) := by decide +kernel
theorem d_T_takeDecimal_50 : decode b_T_takeDecimal 50 = .ok (.ifCond .ne 12, 3) := by decide +kernel
theorem d_T_takeDecimal_53 : decode b_T_takeDecimal 53 = .ok (.iload_n 3, 1) := by decide +kernel
theorem d_T_takeDecimal_54 : decode b_T_takeDecimal 54 = .ok (.iload_n 1, 1) := by decide +kernel
theorem d_T_takeDecimal_55 : decode b_T_takeDecimal 55 = .ok (.iconst 1, 1) := by decide +kernel
theorem d_T_takeDecimal_56 : decode b_T_takeDecimal 56 = .ok (.iadd, 1) := by decide +kernel
theorem d_T_takeDecimal_57 : decode b_T_takeDecimal 57 = .ok (.if_icmp .ne 5, 3) := by decide +kernel
theorem d_T_takeDecimal_60 : decode b_T_takeDecimal 60 = .ok (.iconst 0, 1) := by decide +kernel
theorem d_T_takeDecimal_61 : decode b_T_takeDecimal 61 = .ok (.ireturn, 1) := by decide +kernel
theorem d_T_takeDecimal_62 : decode b_T_takeDecimal 62 = .ok (.iload_n 3, 1) := by decide +kernel
theorem d_T_takeDecimal_63 : decode b_T_takeDecimal 63 = .ok (.istore_n 1, 1) := by decide +kernel
theorem d_T_takeDecimal_64 : decode b_T_takeDecimal 64 = .ok (.iload_n 1, 1) := by decide +kernel
theorem d_T_takeDecimal_65 : decode b_T_takeDecimal 65 = .ok (.aload_n 0, 1) := by decide +kernel
theorem d_T_takeDecimal_66 : decode b_T_takeDecimal 66 = .ok (.getfield 29, 3) := by decide +kernel
theorem d_T_takeDecimal_69 : decode b_T_takeDecimal 69 = .ok (.if_icmp .le 7, 3) := by decide +kernel
theorem d_T_takeDecimal_72 : decode b_T_takeDecimal 72 = .ok (.iconst 1, 1) := by decide +kernel
theorem d_T_takeDecimal_73 : decode b_T_takeDecimal 73 = .ok (.goto 4, 3) := by decide +kernel
theorem d_T_takeDecimal_76 : decode b_T_takeDecimal 76 = .ok (.iconst 0, 1) := by decide +kernel
theorem d_T_takeDecimal_77 : decode b_T_takeDecimal 77 = .ok (.istore_n 3, 1) := by decide +kernel
theorem d_T_takeDecimal_78 : decode b_T_takeDecimal 78 = .ok (.aload_n 0, 1) := by decide +kernel
theorem d_T_takeDecimal_79 : decode b_T_takeDecimal 79 = .ok (.iload_n 1, 1) := by decide +kernel
theorem d_T_takeDecimal_80 : decode b_T_takeDecimal 80 = .ok (.putfield 29, 3) := by decide +kernel
theorem d_T_takeDecimal_83 : decode b_T_takeDecimal 83 = .ok (.iload_n 3, 1) := by decide +kernel
theorem d_T_takeDecimal_84 : decode b_T_takeDecimal 84 = .ok (.ireturn, 1) := by decide +kernel
abbrev y_T_takeExponent : MethodName := ⟨"DeckFront$Tape", "takeExponent", "()Z"⟩
abbrev b_T_takeExponent : ByteArray := prog_6_method_13_code
abbrev w_T_takeExponent : List Cond := (Jvm.Cond.code ({ cls := "DeckFront$Tape", name := "takeExponent", desc := "()Z" } : Jvm.MethodName) prog_6_method_13_code (3 : Nat) (Option.some Jvm.ClassFile.FieldType.boolean)) :: wG
theorem d_T_takeExponent_0 : decode b_T_takeExponent 0 = .ok (.aload_n 0, 1) := by decide +kernel
theorem d_T_takeExponent_1 : decode b_T_takeExponent 1 = .ok (.bipush 69, 2) := by decide +kernel
theorem d_T_takeExponent_3 : decode b_T_takeExponent 3 = .ok (.invokevirtual 55, 3) := by decide +kernel
theorem d_T_takeExponent_6 : decode b_T_takeExponent 6 = .ok (.ifCond .eq 68, 3) := by decide +kernel
theorem d_T_takeExponent_9 : decode b_T_takeExponent 9 = .ok (.aload_n 0, 1) := by decide +kernel
theorem d_T_takeExponent_10 : decode b_T_takeExponent 10 = .ok (.aload_n 0, 1) := by decide +kernel
theorem d_T_takeExponent_11 : decode b_T_takeExponent 11 = .ok (.getfield 29, 3) := by decide +kernel
theorem d_T_takeExponent_14 : decode b_T_takeExponent 14 = .ok (.ldc 75, 2) := by decide +kernel
theorem d_T_takeExponent_16 : decode b_T_takeExponent 16 = .ok (.invokevirtual 51, 3) := by decide +kernel
theorem d_T_takeExponent_19 : decode b_T_takeExponent 19 = .ok (.ifCond .ne 16, 3) := by decide +kernel
theorem d_T_takeExponent_22 : decode b_T_takeExponent 22 = .ok (.aload_n 0, 1) := by decide +kernel
theorem d_T_takeExponent_23 : decode b_T_takeExponent 23 = .ok (.aload_n 0, 1) := by decide +kernel
theorem d_T_takeExponent_24 : decode b_T_takeExponent 24 = .ok (.getfield 29, 3) := by decide +kernel
theorem d_T_takeExponent_27 : decode b_T_takeExponent 27 = .ok (.ldc 77, 2) := by decide +kernel
theorem d_T_takeExponent_29 : decode b_T_takeExponent 29 = .ok (.invokevirtual 51, 3) := by decide +kernel
theorem d_T_takeExponent_32 : decode b_T_takeExponent 32 = .ok (.ifCond .eq 12, 3) := by decide +kernel
theorem d_T_takeExponent_35 : decode b_T_takeExponent 35 = .ok (.aload_n 0, 1) := by decide +kernel
theorem d_T_takeExponent_36 : decode b_T_takeExponent 36 = .ok (.getfield 29, 3) := by decide +kernel
theorem d_T_takeExponent_39 : decode b_T_takeExponent 39 = .ok (.iconst 2, 1) := by decide +kernel
theorem d_T_takeExponent_40 : decode b_T_takeExponent 40 = .ok (.iadd, 1) := by decide +kernel
theorem d_T_takeExponent_41 : decode b_T_takeExponent 41 = .ok (.goto 9, 3) := by decide +kernel
theorem d_T_takeExponent_44 : decode b_T_takeExponent 44 = .ok (.aload_n 0, 1) := by decide +kernel
theorem d_T_takeExponent_45 : decode b_T_takeExponent 45 = .ok (.getfield 29, 3) := by decide +kernel
theorem d_T_takeExponent_48 : decode b_T_takeExponent 48 = .ok (.iconst 1, 1) := by decide +kernel
theorem d_T_takeExponent_49 : decode b_T_takeExponent 49 = .ok (.iadd, 1) := by decide +kernel
theorem d_T_takeExponent_50 : decode b_T_takeExponent 50 = .ok (.istore_n 1, 1) := by decide +kernel
theorem d_T_takeExponent_51 : decode b_T_takeExponent 51 = .ok (.aload_n 0, 1) := by decide +kernel
theorem d_T_takeExponent_52 : decode b_T_takeExponent 52 = .ok (.iload_n 1, 1) := by decide +kernel
theorem d_T_takeExponent_53 : decode b_T_takeExponent 53 = .ok (.invokevirtual 66, 3) := by decide +kernel
theorem d_T_takeExponent_56 : decode b_T_takeExponent 56 = .ok (.istore_n 2, 1) := by decide +kernel
theorem d_T_takeExponent_57 : decode b_T_takeExponent 57 = .ok (.aload_n 0, 1) := by decide +kernel
theorem d_T_takeExponent_58 : decode b_T_takeExponent 58 = .ok (.iload_n 2, 1) := by decide +kernel
theorem d_T_takeExponent_59 : decode b_T_takeExponent 59 = .ok (.iload_n 1, 1) := by decide +kernel
theorem d_T_takeExponent_60 : decode b_T_takeExponent 60 = .ok (.if_icmp .le 7, 3) := by decide +kernel
theorem d_T_takeExponent_63 : decode b_T_takeExponent 63 = .ok (.iload_n 2, 1) := by decide +kernel
theorem d_T_takeExponent_64 : decode b_T_takeExponent 64 = .ok (.goto 7, 3) := by decide +kernel
theorem d_T_takeExponent_67 : decode b_T_takeExponent 67 = .ok (.aload_n 0, 1) := by decide +kernel
theorem d_T_takeExponent_68 : decode b_T_takeExponent 68 = .ok (.getfield 29, 3) := by decide +kernel
theorem d_T_takeExponent_71 : decode b_T_takeExponent 71 = .ok (.putfield 29, 3) := by decide +kernel
theorem d_T_takeExponent_74 : decode b_T_takeExponent 74 = .ok (.iconst 1, 1) := by decide +kernel
theorem d_T_takeExponent_75 : decode b_T_takeExponent 75 = .ok (.ireturn, 1) := by decide +kernel
abbrev y_T_digitsEnd : MethodName := ⟨"DeckFront$Tape", "digitsEnd", "(I)I"⟩
abbrev b_T_digitsEnd : ByteArray := prog_6_method_14_code
abbrev w_T_digitsEnd : List Cond := (Jvm.Cond.code ({ cls := "DeckFront$Tape", name := "digitsEnd", desc := "(I)I" } : Jvm.MethodName) prog_6_method_14_code (3 : Nat) (Option.some Jvm.ClassFile.FieldType.int)) :: wG
theorem d_T_digitsEnd_0 : decode b_T_digitsEnd 0 = .ok (.iload_n 1, 1) := by decide +kernel
theorem d_T_digitsEnd_1 : decode b_T_digitsEnd 1 = .ok (.istore_n 2, 1) := by decide +kernel
theorem d_T_digitsEnd_2 : decode b_T_digitsEnd 2 = .ok (.iload_n 2, 1) := by decide +kernel
theorem d_T_digitsEnd_3 : decode b_T_digitsEnd 3 = .ok (.aload_n 0, 1) := by decide +kernel
theorem d_T_digitsEnd_4 : decode b_T_digitsEnd 4 = .ok (.getfield 25, 3) := by decide +kernel
theorem d_T_digitsEnd_7 : decode b_T_digitsEnd 7 = .ok (.if_icmp .ge 21, 3) := by decide +kernel
theorem d_T_digitsEnd_10 : decode b_T_digitsEnd 10 = .ok (.aload_n 0, 1) := by decide +kernel
theorem d_T_digitsEnd_11 : decode b_T_digitsEnd 11 = .ok (.getfield 9, 3) := by decide +kernel
theorem d_T_digitsEnd_14 : decode b_T_digitsEnd 14 = .ok (.iload_n 2, 1) := by decide +kernel
theorem d_T_digitsEnd_15 : decode b_T_digitsEnd 15 = .ok (.caload, 1) := by decide +kernel
theorem d_T_digitsEnd_16 : decode b_T_digitsEnd 16 = .ok (.invokestatic 59, 3) := by decide +kernel
theorem d_T_digitsEnd_19 : decode b_T_digitsEnd 19 = .ok (.ifCond .eq 9, 3) := by decide +kernel
theorem d_T_digitsEnd_22 : decode b_T_digitsEnd 22 = .ok (.iinc 2 1, 3) := by decide +kernel
theorem d_T_digitsEnd_25 : decode b_T_digitsEnd 25 = .ok (.goto (-23), 3) := by decide +kernel
theorem d_T_digitsEnd_28 : decode b_T_digitsEnd 28 = .ok (.iload_n 2, 1) := by decide +kernel
theorem d_T_digitsEnd_29 : decode b_T_digitsEnd 29 = .ok (.ireturn, 1) := by decide +kernel
abbrev y_T_standsLogicalWord : MethodName := ⟨"DeckFront$Tape", "standsLogicalWord", "(I)Z"⟩
abbrev b_T_standsLogicalWord : ByteArray := prog_6_method_15_code
abbrev w_T_standsLogicalWord : List Cond := (Jvm.Cond.code ({ cls := "DeckFront$Tape", name := "standsLogicalWord", desc := "(I)Z" } : Jvm.MethodName) prog_6_method_15_code (2 : Nat) (Option.some Jvm.ClassFile.FieldType.boolean)) :: wG
theorem d_T_standsLogicalWord_0 : decode b_T_standsLogicalWord 0 = .ok (.aload_n 0, 1) := by decide +kernel
theorem d_T_standsLogicalWord_1 : decode b_T_standsLogicalWord 1 = .ok (.iload_n 1, 1) := by decide +kernel
theorem d_T_standsLogicalWord_2 : decode b_T_standsLogicalWord 2 = .ok (.ldc 79, 2) := by decide +kernel
theorem d_T_standsLogicalWord_4 : decode b_T_standsLogicalWord 4 = .ok (.invokevirtual 51, 3) := by decide +kernel
theorem d_T_standsLogicalWord_7 : decode b_T_standsLogicalWord 7 = .ok (.ifCond .ne 103, 3) := by decide +kernel
theorem d_T_standsLogicalWord_10 : decode b_T_standsLogicalWord 10 = .ok (.aload_n 0, 1) := by decide +kernel
theorem d_T_standsLogicalWord_11 : decode b_T_standsLogicalWord 11 = .ok (.iload_n 1, 1) := by decide +kernel
theorem d_T_standsLogicalWord_12 : decode b_T_standsLogicalWord 12 = .ok (.ldc 81, 2) := by decide +kernel
theorem d_T_standsLogicalWord_14 : decode b_T_standsLogicalWord 14 = .ok (.invokevirtual 51, 3) := by decide +kernel
theorem d_T_standsLogicalWord_17 : decode b_T_standsLogicalWord 17 = .ok (.ifCond .ne 93, 3) := by decide +kernel
theorem d_T_standsLogicalWord_20 : decode b_T_standsLogicalWord 20 = .ok (.aload_n 0, 1) := by decide +kernel
theorem d_T_standsLogicalWord_21 : decode b_T_standsLogicalWord 21 = .ok (.iload_n 1, 1) := by decide +kernel
theorem d_T_standsLogicalWord_22 : decode b_T_standsLogicalWord 22 = .ok (.ldc 83, 2) := by decide +kernel
theorem d_T_standsLogicalWord_24 : decode b_T_standsLogicalWord 24 = .ok (.invokevirtual 51, 3) := by decide +kernel
theorem d_T_standsLogicalWord_27 : decode b_T_standsLogicalWord 27 = .ok (.ifCond .ne 83, 3) := by decide +kernel
theorem d_T_standsLogicalWord_30 : decode b_T_standsLogicalWord 30 = .ok (.aload_n 0, 1) := by decide +kernel
theorem d_T_standsLogicalWord_31 : decode b_T_standsLogicalWord 31 = .ok (.iload_n 1, 1) := by decide +kernel
theorem d_T_standsLogicalWord_32 : decode b_T_standsLogicalWord 32 = .ok (.ldc 85, 2) := by decide +kernel
theorem d_T_standsLogicalWord_34 : decode b_T_standsLogicalWord 34 = .ok (.invokevirtual 51, 3) := by decide +kernel
theorem d_T_standsLogicalWord_37 : decode b_T_standsLogicalWord 37 = .ok (.ifCond .ne 73, 3) := by decide +kernel
theorem d_T_standsLogicalWord_40 : decode b_T_standsLogicalWord 40 = .ok (.aload_n 0, 1) := by decide +kernel
theorem d_T_standsLogicalWord_41 : decode b_T_standsLogicalWord 41 = .ok (.iload_n 1, 1) := by decide +kernel
theorem d_T_standsLogicalWord_42 : decode b_T_standsLogicalWord 42 = .ok (.ldc 87, 2) := by decide +kernel
theorem d_T_standsLogicalWord_44 : decode b_T_standsLogicalWord 44 = .ok (.invokevirtual 51, 3) := by decide +kernel
theorem d_T_standsLogicalWord_47 : decode b_T_standsLogicalWord 47 = .ok (.ifCond .ne 63, 3) := by decide +kernel
theorem d_T_standsLogicalWord_50 : decode b_T_standsLogicalWord 50 = .ok (.aload_n 0, 1) := by decide +kernel
theorem d_T_standsLogicalWord_51 : decode b_T_standsLogicalWord 51 = .ok (.iload_n 1, 1) := by decide +kernel
theorem d_T_standsLogicalWord_52 : decode b_T_standsLogicalWord 52 = .ok (.ldc 89, 2) := by decide +kernel
theorem d_T_standsLogicalWord_54 : decode b_T_standsLogicalWord 54 = .ok (.invokevirtual 51, 3) := by decide +kernel
theorem d_T_standsLogicalWord_57 : decode b_T_standsLogicalWord 57 = .ok (.ifCond .ne 53, 3) := by decide +kernel
theorem d_T_standsLogicalWord_60 : decode b_T_standsLogicalWord 60 = .ok (.aload_n 0, 1) := by decide +kernel
theorem d_T_standsLogicalWord_61 : decode b_T_standsLogicalWord 61 = .ok (.iload_n 1, 1) := by decide +kernel
theorem d_T_standsLogicalWord_62 : decode b_T_standsLogicalWord 62 = .ok (.ldc 91, 2) := by decide +kernel
theorem d_T_standsLogicalWord_64 : decode b_T_standsLogicalWord 64 = .ok (.invokevirtual 51, 3) := by decide +kernel
theorem d_T_standsLogicalWord_67 : decode b_T_standsLogicalWord 67 = .ok (.ifCond .ne 43, 3) := by decide +kernel
theorem d_T_standsLogicalWord_70 : decode b_T_standsLogicalWord 70 = .ok (.aload_n 0, 1) := by decide +kernel
theorem d_T_standsLogicalWord_71 : decode b_T_standsLogicalWord 71 = .ok (.iload_n 1, 1) := by decide +kernel
theorem d_T_standsLogicalWord_72 : decode b_T_standsLogicalWord 72 = .ok (.ldc 93, 2) := by decide +kernel
theorem d_T_standsLogicalWord_74 : decode b_T_standsLogicalWord 74 = .ok (.invokevirtual 51, 3) := by decide +kernel
theorem d_T_standsLogicalWord_77 : decode b_T_standsLogicalWord 77 = .ok (.ifCond .ne 33, 3) := by decide +kernel
theorem d_T_standsLogicalWord_80 : decode b_T_standsLogicalWord 80 = .ok (.aload_n 0, 1) := by decide +kernel
theorem d_T_standsLogicalWord_81 : decode b_T_standsLogicalWord 81 = .ok (.iload_n 1, 1) := by decide +kernel
theorem d_T_standsLogicalWord_82 : decode b_T_standsLogicalWord 82 = .ok (.ldc 95, 2) := by decide +kernel
theorem d_T_standsLogicalWord_84 : decode b_T_standsLogicalWord 84 = .ok (.invokevirtual 51, 3) := by decide +kernel
theorem d_T_standsLogicalWord_87 : decode b_T_standsLogicalWord 87 = .ok (.ifCond .ne 23, 3) := by decide +kernel
theorem d_T_standsLogicalWord_90 : decode b_T_standsLogicalWord 90 = .ok (.aload_n 0, 1) := by decide +kernel
theorem d_T_standsLogicalWord_91 : decode b_T_standsLogicalWord 91 = .ok (.iload_n 1, 1) := by decide +kernel
theorem d_T_standsLogicalWord_92 : decode b_T_standsLogicalWord 92 = .ok (.ldc 97, 2) := by decide +kernel
theorem d_T_standsLogicalWord_94 : decode b_T_standsLogicalWord 94 = .ok (.invokevirtual 51, 3) := by decide +kernel
theorem d_T_standsLogicalWord_97 : decode b_T_standsLogicalWord 97 = .ok (.ifCond .ne 13, 3) := by decide +kernel
theorem d_T_standsLogicalWord_100 : decode b_T_standsLogicalWord 100 = .ok (.aload_n 0, 1) := by decide +kernel
theorem d_T_standsLogicalWord_101 : decode b_T_standsLogicalWord 101 = .ok (.iload_n 1, 1) := by decide +kernel
theorem d_T_standsLogicalWord_102 : decode b_T_standsLogicalWord 102 = .ok (.ldc 99, 2) := by decide +kernel
theorem d_T_standsLogicalWord_104 : decode b_T_standsLogicalWord 104 = .ok (.invokevirtual 51, 3) := by decide +kernel
theorem d_T_standsLogicalWord_107 : decode b_T_standsLogicalWord 107 = .ok (.ifCond .eq 7, 3) := by decide +kernel
theorem d_T_standsLogicalWord_110 : decode b_T_standsLogicalWord 110 = .ok (.iconst 1, 1) := by decide +kernel
theorem d_T_standsLogicalWord_111 : decode b_T_standsLogicalWord 111 = .ok (.goto 4, 3) := by decide +kernel
theorem d_T_standsLogicalWord_114 : decode b_T_standsLogicalWord 114 = .ok (.iconst 0, 1) := by decide +kernel
theorem d_T_standsLogicalWord_115 : decode b_T_standsLogicalWord 115 = .ok (.ireturn, 1) := by decide +kernel
abbrev y_T_close : MethodName := ⟨"DeckFront$Tape", "close", "(I)V"⟩
abbrev b_T_close : ByteArray := prog_6_method_16_code
abbrev w_T_close : List Cond := (Jvm.Cond.code ({ cls := "DeckFront$Tape", name := "close", desc := "(I)V" } : Jvm.MethodName) prog_6_method_16_code (2 : Nat) (Option.none : Option Jvm.ClassFile.FieldType)) :: wG
theorem d_T_close_0 : decode b_T_close 0 = .ok (.aload_n 0, 1) := by decide +kernel
theorem d_T_close_1 : decode b_T_close 1 = .ok (.getfield 29, 3) := by decide +kernel
theorem d_T_close_4 : decode b_T_close 4 = .ok (.ifCond .le 18, 3) := by decide +kernel
theorem d_T_close_7 : decode b_T_close 7 = .ok (.aload_n 0, 1) := by decide +kernel
theorem d_T_close_8 : decode b_T_close 8 = .ok (.getfield 19, 3) := by decide +kernel
theorem d_T_close_11 : decode b_T_close 11 = .ok (.aload_n 0, 1) := by decide +kernel
theorem d_T_close_12 : decode b_T_close 12 = .ok (.getfield 29, 3) := by decide +kernel
theorem d_T_close_15 : decode b_T_close 15 = .ok (.iconst 1, 1) := by decide +kernel
theorem d_T_close_16 : decode b_T_close 16 = .ok (.isub, 1) := by decide +kernel
theorem d_T_close_17 : decode b_T_close 17 = .ok (.dup2, 1) := by decide +kernel
theorem d_T_close_18 : decode b_T_close 18 = .ok (.iaload, 1) := by decide +kernel
theorem d_T_close_19 : decode b_T_close 19 = .ok (.iload_n 1, 1) := by decide +kernel
theorem d_T_close_20 : decode b_T_close 20 = .ok (.iadd, 1) := by decide +kernel
theorem d_T_close_21 : decode b_T_close 21 = .ok (.iastore, 1) := by decide +kernel
theorem d_T_close_22 : decode b_T_close 22 = .ok (.return_, 1) := by decide +kernel
abbrev y_T_signShown : MethodName := ⟨"DeckFront$Tape", "signShown", "(I)I"⟩
abbrev b_T_signShown : ByteArray := prog_6_method_17_code
abbrev w_T_signShown : List Cond := (Jvm.Cond.code ({ cls := "DeckFront$Tape", name := "signShown", desc := "(I)I" } : Jvm.MethodName) prog_6_method_17_code (4 : Nat) (Option.some Jvm.ClassFile.FieldType.int)) :: wG
theorem d_T_signShown_0 : decode b_T_signShown 0 = .ok (.iload_n 1, 1) := by decide +kernel
theorem d_T_signShown_1 : decode b_T_signShown 1 = .ok (.istore_n 2, 1) := by decide +kernel
theorem d_T_signShown_2 : decode b_T_signShown 2 = .ok (.iconst 0, 1) := by decide +kernel
theorem d_T_signShown_3 : decode b_T_signShown 3 = .ok (.istore_n 3, 1) := by decide +kernel
theorem d_T_signShown_4 : decode b_T_signShown 4 = .ok (.iload_n 3, 1) := by decide +kernel
theorem d_T_signShown_5 : decode b_T_signShown 5 = .ok (.aload_n 0, 1) := by decide +kernel
theorem d_T_signShown_6 : decode b_T_signShown 6 = .ok (.getfield 25, 3) := by decide +kernel
theorem d_T_signShown_9 : decode b_T_signShown 9 = .ok (.if_icmp .ge 81, 3) := by decide +kernel
theorem d_T_signShown_12 : decode b_T_signShown 12 = .ok (.iload_n 2, 1) := by decide +kernel
theorem d_T_signShown_13 : decode b_T_signShown 13 = .ok (.ifCond .lt 77, 3) := by decide +kernel
theorem d_T_signShown_16 : decode b_T_signShown 16 = .ok (.iload_n 2, 1) := by decide +kernel
theorem d_T_signShown_17 : decode b_T_signShown 17 = .ok (.aload_n 0, 1) := by decide +kernel
theorem d_T_signShown_18 : decode b_T_signShown 18 = .ok (.getfield 15, 3) := by decide +kernel
theorem d_T_signShown_21 : decode b_T_signShown 21 = .ok (.iload_n 3, 1) := by decide +kernel
theorem d_T_signShown_22 : decode b_T_signShown 22 = .ok (.iaload, 1) := by decide +kernel
theorem d_T_signShown_23 : decode b_T_signShown 23 = .ok (.if_icmp .ge 6, 3) := by decide +kernel
theorem d_T_signShown_26 : decode b_T_signShown 26 = .ok (.bipush 40, 2) := by decide +kernel
theorem d_T_signShown_28 : decode b_T_signShown 28 = .ok (.ireturn, 1) := by decide +kernel
theorem d_T_signShown_29 : decode b_T_signShown 29 = .ok (.iload_n 2, 1) := by decide +kernel
theorem d_T_signShown_30 : decode b_T_signShown 30 = .ok (.aload_n 0, 1) := by decide +kernel
theorem d_T_signShown_31 : decode b_T_signShown 31 = .ok (.getfield 15, 3) := by decide +kernel
theorem d_T_signShown_34 : decode b_T_signShown 34 = .ok (.iload_n 3, 1) := by decide +kernel
theorem d_T_signShown_35 : decode b_T_signShown 35 = .ok (.iaload, 1) := by decide +kernel
theorem d_T_signShown_36 : decode b_T_signShown 36 = .ok (.isub, 1) := by decide +kernel
theorem d_T_signShown_37 : decode b_T_signShown 37 = .ok (.istore_n 2, 1) := by decide +kernel
theorem d_T_signShown_38 : decode b_T_signShown 38 = .ok (.aload_n 0, 1) := by decide +kernel
theorem d_T_signShown_39 : decode b_T_signShown 39 = .ok (.getfield 22, 3) := by decide +kernel
theorem d_T_signShown_42 : decode b_T_signShown 42 = .ok (.iload_n 3, 1) := by decide +kernel
theorem d_T_signShown_43 : decode b_T_signShown 43 = .ok (.iaload, 1) := by decide +kernel
theorem d_T_signShown_44 : decode b_T_signShown 44 = .ok (.iconst 5, 1) := by decide +kernel
theorem d_T_signShown_45 : decode b_T_signShown 45 = .ok (.if_icmp .eq 17, 3) := by decide +kernel
theorem d_T_signShown_48 : decode b_T_signShown 48 = .ok (.iload_n 2, 1) := by decide +kernel
theorem d_T_signShown_49 : decode b_T_signShown 49 = .ok (.ifCond .ne 10, 3) := by decide +kernel
theorem d_T_signShown_52 : decode b_T_signShown 52 = .ok (.aload_n 0, 1) := by decide +kernel
theorem d_T_signShown_53 : decode b_T_signShown 53 = .ok (.getfield 9, 3) := by decide +kernel
theorem d_T_signShown_56 : decode b_T_signShown 56 = .ok (.iload_n 3, 1) := by decide +kernel
theorem d_T_signShown_57 : decode b_T_signShown 57 = .ok (.caload, 1) := by decide +kernel
theorem d_T_signShown_58 : decode b_T_signShown 58 = .ok (.ireturn, 1) := by decide +kernel
theorem d_T_signShown_59 : decode b_T_signShown 59 = .ok (.iinc 2 (-1), 3) := by decide +kernel
theorem d_T_signShown_62 : decode b_T_signShown 62 = .ok (.iload_n 2, 1) := by decide +kernel
theorem d_T_signShown_63 : decode b_T_signShown 63 = .ok (.aload_n 0, 1) := by decide +kernel
theorem d_T_signShown_64 : decode b_T_signShown 64 = .ok (.getfield 19, 3) := by decide +kernel
theorem d_T_signShown_67 : decode b_T_signShown 67 = .ok (.iload_n 3, 1) := by decide +kernel
theorem d_T_signShown_68 : decode b_T_signShown 68 = .ok (.iaload, 1) := by decide +kernel
theorem d_T_signShown_69 : decode b_T_signShown 69 = .ok (.if_icmp .ge 6, 3) := by decide +kernel
theorem d_T_signShown_72 : decode b_T_signShown 72 = .ok (.bipush 41, 2) := by decide +kernel
theorem d_T_signShown_74 : decode b_T_signShown 74 = .ok (.ireturn, 1) := by decide +kernel
theorem d_T_signShown_75 : decode b_T_signShown 75 = .ok (.iload_n 2, 1) := by decide +kernel
theorem d_T_signShown_76 : decode b_T_signShown 76 = .ok (.aload_n 0, 1) := by decide +kernel
theorem d_T_signShown_77 : decode b_T_signShown 77 = .ok (.getfield 19, 3) := by decide +kernel
theorem d_T_signShown_80 : decode b_T_signShown 80 = .ok (.iload_n 3, 1) := by decide +kernel
theorem d_T_signShown_81 : decode b_T_signShown 81 = .ok (.iaload, 1) := by decide +kernel
theorem d_T_signShown_82 : decode b_T_signShown 82 = .ok (.isub, 1) := by decide +kernel
theorem d_T_signShown_83 : decode b_T_signShown 83 = .ok (.istore_n 2, 1) := by decide +kernel
theorem d_T_signShown_84 : decode b_T_signShown 84 = .ok (.iinc 3 1, 3) := by decide +kernel
theorem d_T_signShown_87 : decode b_T_signShown 87 = .ok (.goto (-83), 3) := by decide +kernel
theorem d_T_signShown_90 : decode b_T_signShown 90 = .ok (.iconst (-1), 1) := by decide +kernel
theorem d_T_signShown_91 : decode b_T_signShown 91 = .ok (.ireturn, 1) := by decide +kernel
abbrev y_T_kindHere : MethodName := ⟨"DeckFront$Tape", "kindHere", "(J)I"⟩
abbrev b_T_kindHere : ByteArray := prog_6_method_18_code
abbrev w_T_kindHere : List Cond := (Jvm.Cond.code ({ cls := "DeckFront$Tape", name := "kindHere", desc := "(J)I" } : Jvm.MethodName) prog_6_method_18_code (6 : Nat) (Option.some Jvm.ClassFile.FieldType.int)) :: wG
theorem d_T_kindHere_0 : decode b_T_kindHere 0 = .ok (.iconst 0, 1) := by decide +kernel
theorem d_T_kindHere_1 : decode b_T_kindHere 1 = .ok (.istore_n 3, 1) := by decide +kernel
theorem d_T_kindHere_2 : decode b_T_kindHere 2 = .ok (.iconst 0, 1) := by decide +kernel
theorem d_T_kindHere_3 : decode b_T_kindHere 3 = .ok (.istore 4, 2) := by decide +kernel
theorem d_T_kindHere_5 : decode b_T_kindHere 5 = .ok (.iload 4, 2) := by decide +kernel
theorem d_T_kindHere_7 : decode b_T_kindHere 7 = .ok (.aload_n 0, 1) := by decide +kernel
theorem d_T_kindHere_8 : decode b_T_kindHere 8 = .ok (.getfield 25, 3) := by decide +kernel
theorem d_T_kindHere_11 : decode b_T_kindHere 11 = .ok (.if_icmp .ge 77, 3) := by decide +kernel
theorem d_T_kindHere_14 : decode b_T_kindHere 14 = .ok (.aload_n 0, 1) := by decide +kernel
theorem d_T_kindHere_15 : decode b_T_kindHere 15 = .ok (.getfield 22, 3) := by decide +kernel
theorem d_T_kindHere_18 : decode b_T_kindHere 18 = .ok (.iload 4, 2) := by decide +kernel
theorem d_T_kindHere_20 : decode b_T_kindHere 20 = .ok (.iaload, 1) := by decide +kernel
theorem d_T_kindHere_21 : decode b_T_kindHere 21 = .ok (.iconst 1, 1) := by decide +kernel
theorem d_T_kindHere_22 : decode b_T_kindHere 22 = .ok (.if_icmp .lt 18, 3) := by decide +kernel
theorem d_T_kindHere_25 : decode b_T_kindHere 25 = .ok (.aload_n 0, 1) := by decide +kernel
theorem d_T_kindHere_26 : decode b_T_kindHere 26 = .ok (.getfield 22, 3) := by decide +kernel
theorem d_T_kindHere_29 : decode b_T_kindHere 29 = .ok (.iload 4, 2) := by decide +kernel
theorem d_T_kindHere_31 : decode b_T_kindHere 31 = .ok (.iaload, 1) := by decide +kernel
theorem d_T_kindHere_32 : decode b_T_kindHere 32 = .ok (.iconst 4, 1) := by decide +kernel
theorem d_T_kindHere_33 : decode b_T_kindHere 33 = .ok (.if_icmp .gt 7, 3) := by decide +kernel
theorem d_T_kindHere_36 : decode b_T_kindHere 36 = .ok (.iconst 1, 1) := by decide +kernel
theorem d_T_kindHere_37 : decode b_T_kindHere 37 = .ok (.goto 4, 3) := by decide +kernel
theorem d_T_kindHere_40 : decode b_T_kindHere 40 = .ok (.iconst 0, 1) := by decide +kernel
theorem d_T_kindHere_41 : decode b_T_kindHere 41 = .ok (.istore 5, 2) := by decide +kernel
theorem d_T_kindHere_43 : decode b_T_kindHere 43 = .ok (.iload 5, 2) := by decide +kernel
theorem d_T_kindHere_45 : decode b_T_kindHere 45 = .ok (.ifCond .eq 37, 3) := by decide +kernel
theorem d_T_kindHere_48 : decode b_T_kindHere 48 = .ok (.iload_n 3, 1) := by decide +kernel
theorem d_T_kindHere_49 : decode b_T_kindHere 49 = .ok (.ifCond .eq 14, 3) := by decide +kernel
theorem d_T_kindHere_52 : decode b_T_kindHere 52 = .ok (.aload_n 0, 1) := by decide +kernel
theorem d_T_kindHere_53 : decode b_T_kindHere 53 = .ok (.getfield 22, 3) := by decide +kernel
theorem d_T_kindHere_56 : decode b_T_kindHere 56 = .ok (.iload 4, 2) := by decide +kernel
theorem d_T_kindHere_58 : decode b_T_kindHere 58 = .ok (.iaload, 1) := by decide +kernel
theorem d_T_kindHere_59 : decode b_T_kindHere 59 = .ok (.iload_n 3, 1) := by decide +kernel
theorem d_T_kindHere_60 : decode b_T_kindHere 60 = .ok (.if_icmp .ge 22, 3) := by decide +kernel
theorem d_T_kindHere_63 : decode b_T_kindHere 63 = .ok (.aload_n 0, 1) := by decide +kernel
theorem d_T_kindHere_64 : decode b_T_kindHere 64 = .ok (.iload 4, 2) := by decide +kernel
theorem d_T_kindHere_66 : decode b_T_kindHere 66 = .ok (.invokevirtual 101, 3) := by decide +kernel
theorem d_T_kindHere_69 : decode b_T_kindHere 69 = .ok (.lload_n 1, 1) := by decide +kernel
theorem d_T_kindHere_70 : decode b_T_kindHere 70 = .ok (.lcmp, 1) := by decide +kernel
theorem d_T_kindHere_71 : decode b_T_kindHere 71 = .ok (.ifCond .ne 11, 3) := by decide +kernel
theorem d_T_kindHere_74 : decode b_T_kindHere 74 = .ok (.aload_n 0, 1) := by decide +kernel
theorem d_T_kindHere_75 : decode b_T_kindHere 75 = .ok (.getfield 22, 3) := by decide +kernel
theorem d_T_kindHere_78 : decode b_T_kindHere 78 = .ok (.iload 4, 2) := by decide +kernel
theorem d_T_kindHere_80 : decode b_T_kindHere 80 = .ok (.iaload, 1) := by decide +kernel
theorem d_T_kindHere_81 : decode b_T_kindHere 81 = .ok (.istore_n 3, 1) := by decide +kernel
theorem d_T_kindHere_82 : decode b_T_kindHere 82 = .ok (.iinc 4 1, 3) := by decide +kernel
theorem d_T_kindHere_85 : decode b_T_kindHere 85 = .ok (.goto (-80), 3) := by decide +kernel
theorem d_T_kindHere_88 : decode b_T_kindHere 88 = .ok (.iload_n 3, 1) := by decide +kernel
theorem d_T_kindHere_89 : decode b_T_kindHere 89 = .ok (.ireturn, 1) := by decide +kernel
abbrev y_T_nameAt : MethodName := ⟨"DeckFront$Tape", "nameAt", "(I)J"⟩
abbrev b_T_nameAt : ByteArray := prog_6_method_19_code
abbrev w_T_nameAt : List Cond := (Jvm.Cond.code ({ cls := "DeckFront$Tape", name := "nameAt", desc := "(I)J" } : Jvm.MethodName) prog_6_method_19_code (5 : Nat) (Option.some Jvm.ClassFile.FieldType.long)) :: wG
theorem d_T_nameAt_0 : decode b_T_nameAt 0 = .ok (.lconst 0, 1) := by decide +kernel
theorem d_T_nameAt_1 : decode b_T_nameAt 1 = .ok (.lstore_n 2, 1) := by decide +kernel
theorem d_T_nameAt_2 : decode b_T_nameAt 2 = .ok (.iload_n 1, 1) := by decide +kernel
theorem d_T_nameAt_3 : decode b_T_nameAt 3 = .ok (.istore 4, 2) := by decide +kernel
theorem d_T_nameAt_5 : decode b_T_nameAt 5 = .ok (.iload 4, 2) := by decide +kernel
theorem d_T_nameAt_7 : decode b_T_nameAt 7 = .ok (.iload_n 1, 1) := by decide +kernel
theorem d_T_nameAt_8 : decode b_T_nameAt 8 = .ok (.bipush 6, 2) := by decide +kernel
theorem d_T_nameAt_10 : decode b_T_nameAt 10 = .ok (.iadd, 1) := by decide +kernel
theorem d_T_nameAt_11 : decode b_T_nameAt 11 = .ok (.if_icmp .ge 61, 3) := by decide +kernel
theorem d_T_nameAt_14 : decode b_T_nameAt 14 = .ok (.iload 4, 2) := by decide +kernel
theorem d_T_nameAt_16 : decode b_T_nameAt 16 = .ok (.aload_n 0, 1) := by decide +kernel
theorem d_T_nameAt_17 : decode b_T_nameAt 17 = .ok (.getfield 25, 3) := by decide +kernel
theorem d_T_nameAt_20 : decode b_T_nameAt 20 = .ok (.if_icmp .ge 52, 3) := by decide +kernel
theorem d_T_nameAt_23 : decode b_T_nameAt 23 = .ok (.aload_n 0, 1) := by decide +kernel
theorem d_T_nameAt_24 : decode b_T_nameAt 24 = .ok (.getfield 9, 3) := by decide +kernel
theorem d_T_nameAt_27 : decode b_T_nameAt 27 = .ok (.iload 4, 2) := by decide +kernel
theorem d_T_nameAt_29 : decode b_T_nameAt 29 = .ok (.caload, 1) := by decide +kernel
theorem d_T_nameAt_30 : decode b_T_nameAt 30 = .ok (.invokestatic 63, 3) := by decide +kernel
theorem d_T_nameAt_33 : decode b_T_nameAt 33 = .ok (.ifCond .ne 19, 3) := by decide +kernel
theorem d_T_nameAt_36 : decode b_T_nameAt 36 = .ok (.aload_n 0, 1) := by decide +kernel
theorem d_T_nameAt_37 : decode b_T_nameAt 37 = .ok (.getfield 9, 3) := by decide +kernel
theorem d_T_nameAt_40 : decode b_T_nameAt 40 = .ok (.iload 4, 2) := by decide +kernel
theorem d_T_nameAt_42 : decode b_T_nameAt 42 = .ok (.caload, 1) := by decide +kernel
theorem d_T_nameAt_43 : decode b_T_nameAt 43 = .ok (.invokestatic 59, 3) := by decide +kernel
theorem d_T_nameAt_46 : decode b_T_nameAt 46 = .ok (.ifCond .ne 6, 3) := by decide +kernel
theorem d_T_nameAt_49 : decode b_T_nameAt 49 = .ok (.goto 23, 3) := by decide +kernel
theorem d_T_nameAt_52 : decode b_T_nameAt 52 = .ok (.lload_n 2, 1) := by decide +kernel
theorem d_T_nameAt_53 : decode b_T_nameAt 53 = .ok (.bipush 8, 2) := by decide +kernel
theorem d_T_nameAt_55 : decode b_T_nameAt 55 = .ok (.lshl, 1) := by decide +kernel
theorem d_T_nameAt_56 : decode b_T_nameAt 56 = .ok (.aload_n 0, 1) := by decide +kernel
theorem d_T_nameAt_57 : decode b_T_nameAt 57 = .ok (.getfield 9, 3) := by decide +kernel
theorem d_T_nameAt_60 : decode b_T_nameAt 60 = .ok (.iload 4, 2) := by decide +kernel
theorem d_T_nameAt_62 : decode b_T_nameAt 62 = .ok (.caload, 1) := by decide +kernel
theorem d_T_nameAt_63 : decode b_T_nameAt 63 = .ok (.i2l, 1) := by decide +kernel
theorem d_T_nameAt_64 : decode b_T_nameAt 64 = .ok (.lor, 1) := by decide +kernel
theorem d_T_nameAt_65 : decode b_T_nameAt 65 = .ok (.lstore_n 2, 1) := by decide +kernel
theorem d_T_nameAt_66 : decode b_T_nameAt 66 = .ok (.iinc 4 1, 3) := by decide +kernel
theorem d_T_nameAt_69 : decode b_T_nameAt 69 = .ok (.goto (-64), 3) := by decide +kernel
theorem d_T_nameAt_72 : decode b_T_nameAt 72 = .ok (.lload_n 2, 1) := by decide +kernel
theorem d_T_nameAt_73 : decode b_T_nameAt 73 = .ok (.lreturn, 1) := by decide +kernel
abbrev y_T_numberAt : MethodName := ⟨"DeckFront$Tape", "numberAt", "(I)I"⟩
abbrev b_T_numberAt : ByteArray := prog_6_method_20_code
abbrev w_T_numberAt : List Cond := (Jvm.Cond.code ({ cls := "DeckFront$Tape", name := "numberAt", desc := "(I)I" } : Jvm.MethodName) prog_6_method_20_code (4 : Nat) (Option.some Jvm.ClassFile.FieldType.int)) :: wG
theorem d_T_numberAt_0 : decode b_T_numberAt 0 = .ok (.iconst 0, 1) := by decide +kernel
theorem d_T_numberAt_1 : decode b_T_numberAt 1 = .ok (.istore_n 2, 1) := by decide +kernel
theorem d_T_numberAt_2 : decode b_T_numberAt 2 = .ok (.iload_n 1, 1) := by decide +kernel
theorem d_T_numberAt_3 : decode b_T_numberAt 3 = .ok (.istore_n 3, 1) := by decide +kernel
theorem d_T_numberAt_4 : decode b_T_numberAt 4 = .ok (.iload_n 3, 1) := by decide +kernel
theorem d_T_numberAt_5 : decode b_T_numberAt 5 = .ok (.iload_n 1, 1) := by decide +kernel
theorem d_T_numberAt_6 : decode b_T_numberAt 6 = .ok (.iconst 5, 1) := by decide +kernel
theorem d_T_numberAt_7 : decode b_T_numberAt 7 = .ok (.iadd, 1) := by decide +kernel
theorem d_T_numberAt_8 : decode b_T_numberAt 8 = .ok (.if_icmp .ge 44, 3) := by decide +kernel
theorem d_T_numberAt_11 : decode b_T_numberAt 11 = .ok (.iload_n 3, 1) := by decide +kernel
theorem d_T_numberAt_12 : decode b_T_numberAt 12 = .ok (.aload_n 0, 1) := by decide +kernel
theorem d_T_numberAt_13 : decode b_T_numberAt 13 = .ok (.getfield 25, 3) := by decide +kernel
theorem d_T_numberAt_16 : decode b_T_numberAt 16 = .ok (.if_icmp .ge 36, 3) := by decide +kernel
theorem d_T_numberAt_19 : decode b_T_numberAt 19 = .ok (.aload_n 0, 1) := by decide +kernel
theorem d_T_numberAt_20 : decode b_T_numberAt 20 = .ok (.getfield 9, 3) := by decide +kernel
theorem d_T_numberAt_23 : decode b_T_numberAt 23 = .ok (.iload_n 3, 1) := by decide +kernel
theorem d_T_numberAt_24 : decode b_T_numberAt 24 = .ok (.caload, 1) := by decide +kernel
theorem d_T_numberAt_25 : decode b_T_numberAt 25 = .ok (.invokestatic 59, 3) := by decide +kernel
theorem d_T_numberAt_28 : decode b_T_numberAt 28 = .ok (.ifCond .eq 24, 3) := by decide +kernel
theorem d_T_numberAt_31 : decode b_T_numberAt 31 = .ok (.iload_n 2, 1) := by decide +kernel
theorem d_T_numberAt_32 : decode b_T_numberAt 32 = .ok (.bipush 10, 2) := by decide +kernel
theorem d_T_numberAt_34 : decode b_T_numberAt 34 = .ok (.imul, 1) := by decide +kernel
theorem d_T_numberAt_35 : decode b_T_numberAt 35 = .ok (.aload_n 0, 1) := by decide +kernel
theorem d_T_numberAt_36 : decode b_T_numberAt 36 = .ok (.getfield 9, 3) := by decide +kernel
theorem d_T_numberAt_39 : decode b_T_numberAt 39 = .ok (.iload_n 3, 1) := by decide +kernel
theorem d_T_numberAt_40 : decode b_T_numberAt 40 = .ok (.caload, 1) := by decide +kernel
theorem d_T_numberAt_41 : decode b_T_numberAt 41 = .ok (.iadd, 1) := by decide +kernel
theorem d_T_numberAt_42 : decode b_T_numberAt 42 = .ok (.bipush 48, 2) := by decide +kernel
theorem d_T_numberAt_44 : decode b_T_numberAt 44 = .ok (.isub, 1) := by decide +kernel
theorem d_T_numberAt_45 : decode b_T_numberAt 45 = .ok (.istore_n 2, 1) := by decide +kernel
theorem d_T_numberAt_46 : decode b_T_numberAt 46 = .ok (.iinc 3 1, 3) := by decide +kernel
theorem d_T_numberAt_49 : decode b_T_numberAt 49 = .ok (.goto (-45), 3) := by decide +kernel
theorem d_T_numberAt_52 : decode b_T_numberAt 52 = .ok (.iload_n 2, 1) := by decide +kernel
theorem d_T_numberAt_53 : decode b_T_numberAt 53 = .ok (.ireturn, 1) := by decide +kernel
end
section
def fsC (a : Nat → Nat) (u : MS) : List Value := [.ref (a 0), .int (gI u 1)]
def wdC (o : Nat) (a : Nat → Nat) (cs : Nat → ClassId) (u : MS) : va_W := (o, .inr (0, fsC a u)) :: [(a 0, .inl (cs 1, 72, .inl (gA u 0)))]
section
variable (o : Nat) (a : Nat → Nat) (cs : Nat → ClassId) (u : MS)
theorem eC_o : (wdC o a cs u)[0]? = some (o, .inr (0, fsC a u)) := rfl
theorem eC_0 : (wdC o a cs u)[1]? = some (a 0, .inl (cs 1, 72, .inl (gA u 0))) := rfl
theorem sC_0 (i : Nat) (v : Int32) : (wdC o a cs u).set 1 (a 0, .inl (cs 1, 72, .inl (upd (gA u 0) i v))) = wdC o a cs (sA u 0 i v) := rfl
theorem sC_1 (v : Int32) : (wdC o a cs u).set 0 (o, .inr (0, (fsC a u).set 1 (.int v))) = wdC o a cs (sI u 1 v) := rfl
end
def fsS (a : Nat → Nat) (u : MS) : List Value := [.ref (a 0), .ref (a 1), .ref (a 2), .ref (a 3), .int (gI u 4), .int (gI u 5), .int (gI u 6), .int (gI u 7), .int (gI u 8)]
def wdS (o : Nat) (a : Nat → Nat) (cs : Nat → ClassId) (u : MS) : va_W := (o, .inr (2, fsS a u)) :: [(a 0, .inl (cs 1, 80, .inl (gA u 0))), (a 1, .inl (cs 0, 80, .inl (gA u 1))), (a 2, .inl (cs 0, 80, .inl (gA u 2))), (a 3, .inl (cs 0, 80, .inl (gA u 3)))]
section
variable (o : Nat) (a : Nat → Nat) (cs : Nat → ClassId) (u : MS)
theorem eS_o : (wdS o a cs u)[0]? = some (o, .inr (2, fsS a u)) := rfl
theorem eS_0 : (wdS o a cs u)[1]? = some (a 0, .inl (cs 1, 80, .inl (gA u 0))) := rfl
theorem sS_0 (i : Nat) (v : Int32) : (wdS o a cs u).set 1 (a 0, .inl (cs 1, 80, .inl (upd (gA u 0) i v))) = wdS o a cs (sA u 0 i v) := rfl
theorem eS_1 : (wdS o a cs u)[2]? = some (a 1, .inl (cs 0, 80, .inl (gA u 1))) := rfl
theorem sS_1 (i : Nat) (v : Int32) : (wdS o a cs u).set 2 (a 1, .inl (cs 0, 80, .inl (upd (gA u 1) i v))) = wdS o a cs (sA u 1 i v) := rfl
theorem eS_2 : (wdS o a cs u)[3]? = some (a 2, .inl (cs 0, 80, .inl (gA u 2))) := rfl
theorem sS_2 (i : Nat) (v : Int32) : (wdS o a cs u).set 3 (a 2, .inl (cs 0, 80, .inl (upd (gA u 2) i v))) = wdS o a cs (sA u 2 i v) := rfl
theorem eS_3 : (wdS o a cs u)[4]? = some (a 3, .inl (cs 0, 80, .inl (gA u 3))) := rfl
theorem sS_3 (i : Nat) (v : Int32) : (wdS o a cs u).set 4 (a 3, .inl (cs 0, 80, .inl (upd (gA u 3) i v))) = wdS o a cs (sA u 3 i v) := rfl
theorem sS_4 (v : Int32) : (wdS o a cs u).set 0 (o, .inr (2, (fsS a u).set 4 (.int v))) = wdS o a cs (sI u 4 v) := rfl
theorem sS_5 (v : Int32) : (wdS o a cs u).set 0 (o, .inr (2, (fsS a u).set 5 (.int v))) = wdS o a cs (sI u 5 v) := rfl
theorem sS_6 (v : Int32) : (wdS o a cs u).set 0 (o, .inr (2, (fsS a u).set 6 (.int v))) = wdS o a cs (sI u 6 v) := rfl
theorem sS_7 (v : Int32) : (wdS o a cs u).set 0 (o, .inr (2, (fsS a u).set 7 (.int v))) = wdS o a cs (sI u 7 v) := rfl
theorem sS_8 (v : Int32) : (wdS o a cs u).set 0 (o, .inr (2, (fsS a u).set 8 (.int v))) = wdS o a cs (sI u 8 v) := rfl
end
theorem k_D_97 {a : Cond} : xkS (a :: wG) "DeckFront" 97 y_D_isLetter b_D_isLetter 1 (Option.some Jvm.ClassFile.FieldType.boolean) w_D_isLetter 1 := ⟨⟨gG tw_160, ⟨_, rfl⟩, cG tw_1, by decide, by decide, by decide +kernel⟩, cG tw_289, cG tw_159⟩
theorem k_D_101 {a : Cond} : xkS (a :: wG) "DeckFront" 101 y_D_isDigit b_D_isDigit 1 (Option.some Jvm.ClassFile.FieldType.boolean) w_D_isDigit 1 := ⟨⟨gG tw_163, ⟨_, rfl⟩, cG tw_1, by decide, by decide, by decide +kernel⟩, cG tw_290, cG tw_162⟩
theorem k_C_15 {a : Cond} : xkS (a :: wG) "DeckFront$Card" 15 y_C_isCardSign b_C_isCardSign 1 (Option.some Jvm.ClassFile.FieldType.boolean) w_C_isCardSign 1 := ⟨⟨gG tw_157, ⟨_, rfl⟩, cG tw_2, by decide, by decide, by decide +kernel⟩, cG tw_155, cG tw_156⟩
theorem k_C_23 {Ev : (Nat → Prop) → State → Prop} {adK adV : Nat → Nat} {fm : Option Nat} (X : xEv adK adV fm Ev) {a : Cond} : xkSN Ev (a :: wG) "DeckFront$Card" 23 y_D_isLetter b_D_isLetter 1 (Option.some Jvm.ClassFile.FieldType.boolean) w_D_isLetter 1 := ⟨⟨gG tw_160, ⟨_, rfl⟩, cG tw_1, by decide, by decide, by decide +kernel⟩, ⟨_, fun A s h => (X A s h).2.2.1 _ (List.mem_of_getElem? (i := 4) rfl)⟩, cG tw_159⟩
theorem k_C_26 {Ev : (Nat → Prop) → State → Prop} {adK adV : Nat → Nat} {fm : Option Nat} (X : xEv adK adV fm Ev) {a : Cond} : xkSN Ev (a :: wG) "DeckFront$Card" 26 y_D_isDigit b_D_isDigit 1 (Option.some Jvm.ClassFile.FieldType.boolean) w_D_isDigit 1 := ⟨⟨gG tw_163, ⟨_, rfl⟩, cG tw_1, by decide, by decide, by decide +kernel⟩, ⟨_, fun A s h => (X A s h).2.2.1 _ (List.mem_of_getElem? (i := 5) rfl)⟩, cG tw_162⟩
theorem k_C_31 {a : Cond} : xkV (a :: wG) "DeckFront$Card" 31 "java/lang/String" y_JS_indexOf0 b_JS_indexOf0 2 (Option.some Jvm.ClassFile.FieldType.int) w_JS_indexOf0 1 := ⟨⟨gG tw_168, ⟨_, rfl⟩, cG tw_8, by decide, by decide, by decide +kernel⟩, cG tw_165, cG tw_166, fun _ _ h => h _ (cG tw_167)⟩
theorem k_C_37 {a : Cond} : xkV (a :: wG) "DeckFront$Card" 37 "DeckFront$Card" y_C_isBlankTo b_C_isBlankTo 3 (Option.some Jvm.ClassFile.FieldType.boolean) w_C_isBlankTo 1 := ⟨⟨gG tw_413, ⟨_, rfl⟩, cG tw_2, by decide, by decide, by decide +kernel⟩, cG tw_410, cG tw_411, fun _ _ h => h _ (cG tw_412)⟩
theorem k_C_40 {a : Cond} : xkV (a :: wG) "DeckFront$Card" 40 "DeckFront$Card" y_C_continuesOne b_C_continuesOne 1 (Option.some Jvm.ClassFile.FieldType.boolean) w_C_continuesOne 0 := ⟨⟨gG tw_421, ⟨_, rfl⟩, cG tw_2, by decide, by decide, by decide +kernel⟩, cG tw_418, cG tw_419, fun _ _ h => h _ (cG tw_420)⟩
theorem k_T_42 {a : Cond} : xkV (a :: wG) "DeckFront$Tape" 42 "java/lang/String" y_JS_length b_JS_length 1 (Option.some Jvm.ClassFile.FieldType.int) w_JS_length 0 := ⟨⟨gG tw_182, ⟨_, rfl⟩, cG tw_8, by decide, by decide, by decide +kernel⟩, cG tw_560, cG tw_180, fun _ _ h => h _ (cG tw_181)⟩
theorem k_T_47 {a : Cond} : xkV (a :: wG) "DeckFront$Tape" 47 "java/lang/String" y_JS_charAt b_JS_charAt 2 (Option.some Jvm.ClassFile.FieldType.char) w_JS_charAt 1 := ⟨⟨gG tw_564, ⟨_, rfl⟩, cG tw_8, by decide, by decide, by decide +kernel⟩, cG tw_561, cG tw_562, fun _ _ h => h _ (cG tw_563)⟩
theorem k_T_51 {a : Cond} : xkV (a :: wG) "DeckFront$Tape" 51 "DeckFront$Statement" y_T_stands b_T_stands 4 (Option.some Jvm.ClassFile.FieldType.boolean) w_T_stands 2 := ⟨⟨gG tw_559, ⟨_, rfl⟩, cG tw_4, by decide, by decide, by decide +kernel⟩, cG tw_555, cG tw_556, fun _ _ h => h _ (cG tw_558)⟩
theorem k_T_55 {a : Cond} : xkV (a :: wG) "DeckFront$Tape" 55 "DeckFront$Statement" y_T_isNext b_T_isNext 2 (Option.some Jvm.ClassFile.FieldType.boolean) w_T_isNext 1 := ⟨⟨gG tw_597, ⟨_, rfl⟩, cG tw_4, by decide, by decide, by decide +kernel⟩, cG tw_593, cG tw_594, fun _ _ h => h _ (cG tw_596)⟩
theorem k_T_59 {Ev : (Nat → Prop) → State → Prop} {adK adV : Nat → Nat} {fm : Option Nat} (X : xEv adK adV fm Ev) {a : Cond} : xkSN Ev (a :: wG) "DeckFront$Tape" 59 y_D_isDigit b_D_isDigit 1 (Option.some Jvm.ClassFile.FieldType.boolean) w_D_isDigit 1 := ⟨⟨gG tw_163, ⟨_, rfl⟩, cG tw_1, by decide, by decide, by decide +kernel⟩, ⟨_, fun A s h => (X A s h).2.2.1 _ (List.mem_of_getElem? (i := 7) rfl)⟩, cG tw_162⟩
theorem k_T_63 {Ev : (Nat → Prop) → State → Prop} {adK adV : Nat → Nat} {fm : Option Nat} (X : xEv adK adV fm Ev) {a : Cond} : xkSN Ev (a :: wG) "DeckFront$Tape" 63 y_D_isLetter b_D_isLetter 1 (Option.some Jvm.ClassFile.FieldType.boolean) w_D_isLetter 1 := ⟨⟨gG tw_160, ⟨_, rfl⟩, cG tw_1, by decide, by decide, by decide +kernel⟩, ⟨_, fun A s h => (X A s h).2.2.1 _ (List.mem_of_getElem? (i := 6) rfl)⟩, cG tw_159⟩
theorem k_T_66 {a : Cond} : xkV (a :: wG) "DeckFront$Tape" 66 "DeckFront$Statement" y_T_digitsEnd b_T_digitsEnd 3 (Option.some Jvm.ClassFile.FieldType.int) w_T_digitsEnd 1 := ⟨⟨gG tw_626, ⟨_, rfl⟩, cG tw_4, by decide, by decide, by decide +kernel⟩, cG tw_623, cG tw_625, fun _ _ h => h _ (cG tq_digitsEnd)⟩
theorem k_T_72 {a : Cond} : xkV (a :: wG) "DeckFront$Tape" 72 "DeckFront$Statement" y_T_standsLogicalWord b_T_standsLogicalWord 2 (Option.some Jvm.ClassFile.FieldType.boolean) w_T_standsLogicalWord 1 := ⟨⟨gG tw_631, ⟨_, rfl⟩, cG tw_4, by decide, by decide, by decide +kernel⟩, cG tw_628, cG tw_630, fun _ _ h => h _ (cG tq_standsLogicalWord)⟩
theorem k_T_101 {a : Cond} : xkV (a :: wG) "DeckFront$Tape" 101 "DeckFront$Statement" y_T_nameAt b_T_nameAt 5 (Option.some Jvm.ClassFile.FieldType.long) w_T_nameAt 1 := ⟨⟨gG tw_304, ⟨_, rfl⟩, cG tw_4, by decide, by decide, by decide +kernel⟩, cG tw_301, cG tw_303, fun _ _ h => h _ (cG tq_nameAt)⟩
end
section
def P_D_isLetter (post : Int32 → Unit → Prop) (a0 : Int32) (u : Unit) : Prop := ((a0 < 65 → post 0 u) ∧ (¬ a0 < 65 → ((90 < a0 → post 0 u) ∧ (¬ 90 < a0 → post 1 u))))
set_option maxHeartbeats 600000 in
set_option maxRecDepth 100000 in
theorem c_D_isLetter (l : Launch) (D : va_G) (cs : Nat → ClassId) (Ev : (Nat → Prop) → State → Prop) (hE : xEok Ev) (adK adV : Nat → Nat) (fm : Option Nat) (X : xEv adK adV fm Ev) (d : Nat) (post : Int32 → Unit → Prop) (a0 : Int32) (u : Unit) (h : P_D_isLetter post a0 u) : xC l D clX (tysX cs) Ev y_D_isLetter w_D_isLetter (rmD (d + 0)) wd0 [.int a0] u (pI post) 0 0 := by
  unfold P_D_isLetter at h
  refine xC.of (cc := b_D_isLetter) (nL := 1) (ret := (some .boolean)) (by decide) rfl (Nat.le_of_ble_eq_true rfl) ?_
  show RR l D clX (tysX cs) Ev "DeckFront" b_D_isLetter 1 w_D_isLetter (rmD (d + 0)) (some .boolean) wd0 (pI post) 0 0 0 0 0 [(0, .int a0)] [] u
  refine x_iload_n (x := a0) d_D_isLetter_0 rfl ?_
  refine x_bipush (v := 65) d_D_isLetter_1 (by decide) ?_
  refine x_icmp_lt (tgt := 16) d_D_isLetter_3 rfl (fun hc => ?_) (fun hc => ?_)
  · have h := h.1 hc
    refine x_iconst (v := 0) d_D_isLetter_16 (by decide) ?_
    refine x_zret rfl d_D_isLetter_17 ⟨_, rfl, ?_⟩
    exact h
  · have h := h.2 hc
    refine x_iload_n (x := a0) d_D_isLetter_6 rfl ?_
    refine x_bipush (v := 90) d_D_isLetter_7 (by decide) ?_
    refine x_icmp_gt (tgt := 16) d_D_isLetter_9 rfl (fun hc => ?_) (fun hc => ?_)
    · have h := h.1 hc
      refine x_iconst (v := 0) d_D_isLetter_16 (by decide) ?_
      refine x_zret rfl d_D_isLetter_17 ⟨_, rfl, ?_⟩
      exact h
    · have h := h.2 hc
      refine x_iconst (v := 1) d_D_isLetter_12 (by decide) ?_
      refine x_goto (tgt := 17) d_D_isLetter_13 rfl ?_
      refine x_zret rfl d_D_isLetter_17 ⟨_, rfl, ?_⟩
      exact h
theorem cf_D_isLetter (l : Launch) (D : va_G) (cs : Nat → ClassId) (Ev : (Nat → Prop) → State → Prop) (hE : xEok Ev) (adK adV : Nat → Nat) (fm : Option Nat) (X : xEv adK adV fm Ev) (d : Nat) (x : Int32) : xC l D clX (tysX cs) Ev y_D_isLetter w_D_isLetter (rmD (d + 0)) wd0 [.int x] () (pI (fun r u1 => r = isLet x ∧ () = u1)) 0 0 := by
  refine c_D_isLetter l D cs Ev hE adK adV fm X d _ x () ?_
  unfold P_D_isLetter isLet
  exact ⟨fun h => ⟨by rw [if_pos h], rfl⟩, fun h => ⟨fun h2 => ⟨by rw [if_neg h, if_pos h2], rfl⟩, fun h2 => ⟨by rw [if_neg h, if_neg h2], rfl⟩⟩⟩
def P_D_isDigit (post : Int32 → Unit → Prop) (a0 : Int32) (u : Unit) : Prop := ((a0 < 48 → post 0 u) ∧ (¬ a0 < 48 → ((57 < a0 → post 0 u) ∧ (¬ 57 < a0 → post 1 u))))
set_option maxHeartbeats 600000 in
set_option maxRecDepth 100000 in
theorem c_D_isDigit (l : Launch) (D : va_G) (cs : Nat → ClassId) (Ev : (Nat → Prop) → State → Prop) (hE : xEok Ev) (adK adV : Nat → Nat) (fm : Option Nat) (X : xEv adK adV fm Ev) (d : Nat) (post : Int32 → Unit → Prop) (a0 : Int32) (u : Unit) (h : P_D_isDigit post a0 u) : xC l D clX (tysX cs) Ev y_D_isDigit w_D_isDigit (rmD (d + 0)) wd0 [.int a0] u (pI post) 0 0 := by
  unfold P_D_isDigit at h
  refine xC.of (cc := b_D_isDigit) (nL := 1) (ret := (some .boolean)) (by decide) rfl (Nat.le_of_ble_eq_true rfl) ?_
  show RR l D clX (tysX cs) Ev "DeckFront" b_D_isDigit 1 w_D_isDigit (rmD (d + 0)) (some .boolean) wd0 (pI post) 0 0 0 0 0 [(0, .int a0)] [] u
  refine x_iload_n (x := a0) d_D_isDigit_0 rfl ?_
  refine x_bipush (v := 48) d_D_isDigit_1 (by decide) ?_
  refine x_icmp_lt (tgt := 16) d_D_isDigit_3 rfl (fun hc => ?_) (fun hc => ?_)
  · have h := h.1 hc
    refine x_iconst (v := 0) d_D_isDigit_16 (by decide) ?_
    refine x_zret rfl d_D_isDigit_17 ⟨_, rfl, ?_⟩
    exact h
  · have h := h.2 hc
    refine x_iload_n (x := a0) d_D_isDigit_6 rfl ?_
    refine x_bipush (v := 57) d_D_isDigit_7 (by decide) ?_
    refine x_icmp_gt (tgt := 16) d_D_isDigit_9 rfl (fun hc => ?_) (fun hc => ?_)
    · have h := h.1 hc
      refine x_iconst (v := 0) d_D_isDigit_16 (by decide) ?_
      refine x_zret rfl d_D_isDigit_17 ⟨_, rfl, ?_⟩
      exact h
    · have h := h.2 hc
      refine x_iconst (v := 1) d_D_isDigit_12 (by decide) ?_
      refine x_goto (tgt := 17) d_D_isDigit_13 rfl ?_
      refine x_zret rfl d_D_isDigit_17 ⟨_, rfl, ?_⟩
      exact h
theorem cf_D_isDigit (l : Launch) (D : va_G) (cs : Nat → ClassId) (Ev : (Nat → Prop) → State → Prop) (hE : xEok Ev) (adK adV : Nat → Nat) (fm : Option Nat) (X : xEv adK adV fm Ev) (d : Nat) (x : Int32) : xC l D clX (tysX cs) Ev y_D_isDigit w_D_isDigit (rmD (d + 0)) wd0 [.int x] () (pI (fun r u1 => r = isDig x ∧ () = u1)) 0 0 := by
  refine c_D_isDigit l D cs Ev hE adK adV fm X d _ x () ?_
  unfold P_D_isDigit isDig
  exact ⟨fun h => ⟨by rw [if_pos h], rfl⟩, fun h => ⟨fun h2 => ⟨by rw [if_neg h, if_pos h2], rfl⟩, fun h2 => ⟨by rw [if_neg h, if_neg h2], rfl⟩⟩⟩
def P_D_nameOf_87 (post : Int64 → Unit → Prop) (K9 : Int64 → Int64 → Int32 → Int32 → Unit → Prop) (x0 : Int64) (x2 : Int64) (x4 : Int32) (x5 : Int32) (u : Unit) : Prop := K9 x0 x2 x4 (x5 + (-8)) u
set_option maxHeartbeats 600000 in
set_option maxRecDepth 100000 in
theorem w_D_nameOf_87 (l : Launch) (D : va_G) (cs : Nat → ClassId) (Ev : (Nat → Prop) → State → Prop) (hE : xEok Ev) (adK adV : Nat → Nat) (fm : Option Nat) (X : xEv adK adV fm Ev) (d : Nat) (post : Int64 → Unit → Prop) (K9 : Int64 → Int64 → Int32 → Int32 → Unit → Prop) (hK9 : ∀ (x0 : Int64) (x2 : Int64) (x4 : Int32) (x5 : Int32) (u : Unit), K9 x0 x2 x4 x5 u → RR l D clX (tysX cs) Ev "DeckFront" b_D_nameOf 8 w_D_nameOf (rmD (d + 1)) (some .long) wd0 (pJ post) 0 0 0 0 9 [(0, .long x0), (2, .long x2), (4, .int x4), (5, .int x5)] [] u) (x0 : Int64) (x2 : Int64) (x4 : Int32) (x5 : Int32) (u : Unit) (h : P_D_nameOf_87 post K9 x0 x2 x4 x5 u) : RR l D clX (tysX cs) Ev "DeckFront" b_D_nameOf 8 w_D_nameOf (rmD (d + 1)) (some .long) wd0 (pJ post) 0 0 0 0 87 [(0, .long x0), (2, .long x2), (4, .int x4), (5, .int x5)] [] u := by
  unfold P_D_nameOf_87 at h
  refine x_iinc (v := x5 + (-8)) (lv' := [(5, .int (x5 + (-8))), (0, .long x0), (2, .long x2), (4, .int x4)]) d_D_nameOf_87 rfl rfl (by decide) rfl ?_
  refine x_goto (tgt := 9) d_D_nameOf_90 rfl ?_
  refine x_sub [1, 2, 3, 0] rfl ?_
  exact hK9 x0 x2 x4 (x5 + (-8)) u h
def P_D_nameOf_59 (post : Int64 → Unit → Prop) (K9 : Int64 → Int64 → Int32 → Int32 → Unit → Prop) (x0 : Int64) (x2 : Int64) (x4 : Int32) (x5 : Int32) (x6 : Int32) (s0 : Int32) (u : Unit) : Prop := ((s0 = 0 → post 0 u) ∧ (¬ s0 = 0 → ((¬ x4 = 6 → (∀ v2, v2 = ((x2 <<< ((8 : Int32).toInt64 &&& 63)) ||| x6.toInt64) → P_D_nameOf_87 post K9 x0 v2 (x4 + 1) x5 u)) ∧ (x4 = 6 → post 0 u))))
set_option maxHeartbeats 600000 in
set_option maxRecDepth 100000 in
theorem w_D_nameOf_59 (l : Launch) (D : va_G) (cs : Nat → ClassId) (Ev : (Nat → Prop) → State → Prop) (hE : xEok Ev) (adK adV : Nat → Nat) (fm : Option Nat) (X : xEv adK adV fm Ev) (d : Nat) (post : Int64 → Unit → Prop) (K9 : Int64 → Int64 → Int32 → Int32 → Unit → Prop) (hK9 : ∀ (x0 : Int64) (x2 : Int64) (x4 : Int32) (x5 : Int32) (u : Unit), K9 x0 x2 x4 x5 u → RR l D clX (tysX cs) Ev "DeckFront" b_D_nameOf 8 w_D_nameOf (rmD (d + 1)) (some .long) wd0 (pJ post) 0 0 0 0 9 [(0, .long x0), (2, .long x2), (4, .int x4), (5, .int x5)] [] u) (x0 : Int64) (x2 : Int64) (x4 : Int32) (x5 : Int32) (x6 : Int32) (s0 : Int32) (u : Unit) (h : P_D_nameOf_59 post K9 x0 x2 x4 x5 x6 s0 u) : RR l D clX (tysX cs) Ev "DeckFront" b_D_nameOf 8 w_D_nameOf (rmD (d + 1)) (some .long) wd0 (pJ post) 0 0 0 0 59 [(0, .long x0), (2, .long x2), (4, .int x4), (5, .int x5), (6, .int x6)] [.int s0] u := by
  unfold P_D_nameOf_59 at h
  refine x_istore (lv' := [(7, .int s0), (0, .long x0), (2, .long x2), (4, .int x4), (5, .int x5), (6, .int x6)]) d_D_nameOf_59 (by decide) rfl ?_
  refine x_iload (x := s0) d_D_nameOf_61 rfl ?_
  refine x_if_eq (tgt := 73) d_D_nameOf_63 rfl (fun hc => ?_) (fun hc => ?_)
  · have h := h.1 hc
    refine x_lconst (v := 0) d_D_nameOf_73 (by decide) ?_
    refine x_lret d_D_nameOf_74 ⟨_, rfl, ?_⟩
    exact h
  · have h := h.2 hc
    refine x_iload (x := x4) d_D_nameOf_66 rfl ?_
    refine x_bipush (v := 6) d_D_nameOf_68 (by decide) ?_
    refine x_icmp_ne (tgt := 75) d_D_nameOf_70 rfl (fun hc => ?_) (fun hc => ?_)
    · have h := h.1 hc
      refine x_lload_n (x := x2) d_D_nameOf_75 rfl ?_
      refine x_bipush (v := 8) d_D_nameOf_76 (by decide) ?_
      refine x_lshl d_D_nameOf_78 ?_
      refine x_iload (x := x6) d_D_nameOf_79 rfl ?_
      refine x_i2l d_D_nameOf_81 ?_
      refine x_lor d_D_nameOf_82 ?_
      refine x_topJ (fun v2 ev2 => ?_)
      have h := h v2 ev2
      refine x_lstore_n (lv' := [(2, .long v2), (7, .int s0), (0, .long x0), (4, .int x4), (5, .int x5), (6, .int x6)]) d_D_nameOf_83 (by decide) rfl ?_
      refine x_iinc (v := x4 + 1) (lv' := [(4, .int (x4 + 1)), (2, .long v2), (7, .int s0), (0, .long x0), (5, .int x5), (6, .int x6)]) d_D_nameOf_84 rfl rfl (by decide) rfl ?_
      refine x_sub [3, 1, 0, 4] rfl ?_
      exact w_D_nameOf_87 l D cs Ev hE adK adV fm X d post K9 hK9 x0 v2 (x4 + 1) x5 u h
    · have h := h.2 hc
      refine x_lconst (v := 0) d_D_nameOf_73 (by decide) ?_
      refine x_lret d_D_nameOf_74 ⟨_, rfl, ?_⟩
      exact h
def P_D_nameOf_54 (post : Int64 → Unit → Prop) (K9 : Int64 → Int64 → Int32 → Int32 → Unit → Prop) (x0 : Int64) (x2 : Int64) (x4 : Int32) (x5 : Int32) (x6 : Int32) (u : Unit) : Prop := P_D_nameOf_59 post K9 x0 x2 x4 x5 x6 1 u
set_option maxHeartbeats 600000 in
set_option maxRecDepth 100000 in
theorem w_D_nameOf_54 (l : Launch) (D : va_G) (cs : Nat → ClassId) (Ev : (Nat → Prop) → State → Prop) (hE : xEok Ev) (adK adV : Nat → Nat) (fm : Option Nat) (X : xEv adK adV fm Ev) (d : Nat) (post : Int64 → Unit → Prop) (K9 : Int64 → Int64 → Int32 → Int32 → Unit → Prop) (hK9 : ∀ (x0 : Int64) (x2 : Int64) (x4 : Int32) (x5 : Int32) (u : Unit), K9 x0 x2 x4 x5 u → RR l D clX (tysX cs) Ev "DeckFront" b_D_nameOf 8 w_D_nameOf (rmD (d + 1)) (some .long) wd0 (pJ post) 0 0 0 0 9 [(0, .long x0), (2, .long x2), (4, .int x4), (5, .int x5)] [] u) (x0 : Int64) (x2 : Int64) (x4 : Int32) (x5 : Int32) (x6 : Int32) (u : Unit) (h : P_D_nameOf_54 post K9 x0 x2 x4 x5 x6 u) : RR l D clX (tysX cs) Ev "DeckFront" b_D_nameOf 8 w_D_nameOf (rmD (d + 1)) (some .long) wd0 (pJ post) 0 0 0 0 54 [(0, .long x0), (2, .long x2), (4, .int x4), (5, .int x5), (6, .int x6)] [] u := by
  unfold P_D_nameOf_54 at h
  refine x_iconst (v := 1) d_D_nameOf_54 (by decide) ?_
  refine x_goto (tgt := 59) d_D_nameOf_55 rfl ?_
  exact w_D_nameOf_59 l D cs Ev hE adK adV fm X d post K9 hK9 x0 x2 x4 x5 x6 1 u h
def P_D_nameOf_58 (post : Int64 → Unit → Prop) (K9 : Int64 → Int64 → Int32 → Int32 → Unit → Prop) (x0 : Int64) (x2 : Int64) (x4 : Int32) (x5 : Int32) (x6 : Int32) (u : Unit) : Prop := P_D_nameOf_59 post K9 x0 x2 x4 x5 x6 0 u
set_option maxHeartbeats 600000 in
set_option maxRecDepth 100000 in
theorem w_D_nameOf_58 (l : Launch) (D : va_G) (cs : Nat → ClassId) (Ev : (Nat → Prop) → State → Prop) (hE : xEok Ev) (adK adV : Nat → Nat) (fm : Option Nat) (X : xEv adK adV fm Ev) (d : Nat) (post : Int64 → Unit → Prop) (K9 : Int64 → Int64 → Int32 → Int32 → Unit → Prop) (hK9 : ∀ (x0 : Int64) (x2 : Int64) (x4 : Int32) (x5 : Int32) (u : Unit), K9 x0 x2 x4 x5 u → RR l D clX (tysX cs) Ev "DeckFront" b_D_nameOf 8 w_D_nameOf (rmD (d + 1)) (some .long) wd0 (pJ post) 0 0 0 0 9 [(0, .long x0), (2, .long x2), (4, .int x4), (5, .int x5)] [] u) (x0 : Int64) (x2 : Int64) (x4 : Int32) (x5 : Int32) (x6 : Int32) (u : Unit) (h : P_D_nameOf_58 post K9 x0 x2 x4 x5 x6 u) : RR l D clX (tysX cs) Ev "DeckFront" b_D_nameOf 8 w_D_nameOf (rmD (d + 1)) (some .long) wd0 (pJ post) 0 0 0 0 58 [(0, .long x0), (2, .long x2), (4, .int x4), (5, .int x5), (6, .int x6)] [] u := by
  unfold P_D_nameOf_58 at h
  refine x_iconst (v := 0) d_D_nameOf_58 (by decide) ?_
  exact w_D_nameOf_59 l D cs Ev hE adK adV fm X d post K9 hK9 x0 x2 x4 x5 x6 0 u h
def P_D_nameOf_9 (post : Int64 → Unit → Prop) : Nat → Int64 → Int64 → Int32 → Int32 → Unit → Prop
  | 0, _, _, _, _, _ => False
  | f + 1, x0, x2, x4, x5, u => ((x5 < 0 → post x2 u) ∧ (¬ x5 < 0 → (∀ v1, v1 = ((((x0.toUInt64 >>> (x5.toInt64.toUInt64 &&& Int64.toUInt64 63)).toInt64).toInt32) &&& (255 : Int32)) → ((¬ v1 = 0 → ((¬ (isLet v1) = 0 → P_D_nameOf_54 post (fun zx0 zx2 zx4 zx5 zu => P_D_nameOf_9 post f zx0 zx2 zx4 zx5 zu) x0 x2 x4 x5 v1 u) ∧ ((isLet v1) = 0 → ((x4 ≤ 0 → P_D_nameOf_58 post (fun zx0 zx2 zx4 zx5 zu => P_D_nameOf_9 post f zx0 zx2 zx4 zx5 zu) x0 x2 x4 x5 v1 u) ∧ (¬ x4 ≤ 0 → (((isDig v1) = 0 → P_D_nameOf_58 post (fun zx0 zx2 zx4 zx5 zu => P_D_nameOf_9 post f zx0 zx2 zx4 zx5 zu) x0 x2 x4 x5 v1 u) ∧ (¬ (isDig v1) = 0 → P_D_nameOf_54 post (fun zx0 zx2 zx4 zx5 zu => P_D_nameOf_9 post f zx0 zx2 zx4 zx5 zu) x0 x2 x4 x5 v1 u))))))) ∧ (v1 = 0 → P_D_nameOf_87 post (fun zx0 zx2 zx4 zx5 zu => P_D_nameOf_9 post f zx0 zx2 zx4 zx5 zu) x0 x2 x4 x5 u)))))
set_option maxHeartbeats 600000 in
set_option maxRecDepth 100000 in
theorem w_D_nameOf_9 (l : Launch) (D : va_G) (cs : Nat → ClassId) (Ev : (Nat → Prop) → State → Prop) (hE : xEok Ev) (adK adV : Nat → Nat) (fm : Option Nat) (X : xEv adK adV fm Ev) (d : Nat) (post : Int64 → Unit → Prop) : ∀ (f : Nat) (x0 : Int64) (x2 : Int64) (x4 : Int32) (x5 : Int32) (u : Unit), P_D_nameOf_9 post  f x0 x2 x4 x5 u → RR l D clX (tysX cs) Ev "DeckFront" b_D_nameOf 8 w_D_nameOf (rmD (d + 1)) (some .long) wd0 (pJ post) 0 0 0 0 9 [(0, .long x0), (2, .long x2), (4, .int x4), (5, .int x5)] [] u := by
  intro f
  induction f with
  | zero => intro x0 x2 x4 x5 u h; exact h.elim
  | succ f ih =>
    intro x0 x2 x4 x5 u h
    unfold P_D_nameOf_9 at h
    refine x_iload (x := x5) d_D_nameOf_9 rfl ?_
    refine x_if_lt (tgt := 93) d_D_nameOf_11 rfl (fun hc => ?_) (fun hc => ?_)
    · have h := h.1 hc
      refine x_lload_n (x := x2) d_D_nameOf_93 rfl ?_
      refine x_lret d_D_nameOf_94 ⟨_, rfl, ?_⟩
      exact h
    · have h := h.2 hc
      refine x_lload_n (x := x0) d_D_nameOf_14 rfl ?_
      refine x_iload (x := x5) d_D_nameOf_15 rfl ?_
      refine x_lushr d_D_nameOf_17 ?_
      refine x_l2i d_D_nameOf_18 ?_
      refine x_sipush (v := 255) d_D_nameOf_19 (by decide) ?_
      refine x_iand d_D_nameOf_22 ?_
      refine x_topI (fun v1 ev1 => ?_)
      have h := h v1 ev1
      refine x_istore (lv' := [(6, .int v1), (0, .long x0), (2, .long x2), (4, .int x4), (5, .int x5)]) d_D_nameOf_23 (by decide) rfl ?_
      refine x_iload (x := v1) d_D_nameOf_25 rfl ?_
      refine x_if_ne (tgt := 33) d_D_nameOf_27 rfl (fun hc => ?_) (fun hc => ?_)
      · have h := h.1 hc
        refine x_iload (x := v1) d_D_nameOf_33 rfl ?_
        refine x_callS (st := []) k_D_97 x_id (cf_D_isLetter l D cs Ev hE adK adV fm X (d + 0) v1) hE (rmD_ok (by omega) (by decide)) rfl (Nat.le_of_ble_eq_true rfl) rfl d_D_nameOf_35 (x_rI (fun x u1 h9 => ?_))
        obtain ⟨rfl, rfl⟩ := h9
        refine x_if_ne (tgt := 54) d_D_nameOf_38 rfl (fun hc => ?_) (fun hc => ?_)
        · have h := h.1 hc
          refine x_sub [1, 2, 3, 4, 0] rfl ?_
          exact w_D_nameOf_54 l D cs Ev hE adK adV fm X d post (fun zx0 zx2 zx4 zx5 zu => P_D_nameOf_9 post f zx0 zx2 zx4 zx5 zu) ih x0 x2 x4 x5 v1 u h
        · have h := h.2 hc
          refine x_iload (x := x4) d_D_nameOf_41 rfl ?_
          refine x_if_le (tgt := 58) d_D_nameOf_43 rfl (fun hc => ?_) (fun hc => ?_)
          · have h := h.1 hc
            refine x_sub [1, 2, 3, 4, 0] rfl ?_
            exact w_D_nameOf_58 l D cs Ev hE adK adV fm X d post (fun zx0 zx2 zx4 zx5 zu => P_D_nameOf_9 post f zx0 zx2 zx4 zx5 zu) ih x0 x2 x4 x5 v1 u h
          · have h := h.2 hc
            refine x_iload (x := v1) d_D_nameOf_46 rfl ?_
            refine x_callS (st := []) k_D_101 x_id (cf_D_isDigit l D cs Ev hE adK adV fm X (d + 0) v1) hE (rmD_ok (by omega) (by decide)) rfl (Nat.le_of_ble_eq_true rfl) rfl d_D_nameOf_48 (x_rI (fun x u1 h9 => ?_))
            obtain ⟨rfl, rfl⟩ := h9
            refine x_if_eq (tgt := 58) d_D_nameOf_51 rfl (fun hc => ?_) (fun hc => ?_)
            · have h := h.1 hc
              refine x_sub [1, 2, 3, 4, 0] rfl ?_
              exact w_D_nameOf_58 l D cs Ev hE adK adV fm X d post (fun zx0 zx2 zx4 zx5 zu => P_D_nameOf_9 post f zx0 zx2 zx4 zx5 zu) ih x0 x2 x4 x5 v1 u h
            · have h := h.2 hc
              refine x_sub [1, 2, 3, 4, 0] rfl ?_
              exact w_D_nameOf_54 l D cs Ev hE adK adV fm X d post (fun zx0 zx2 zx4 zx5 zu => P_D_nameOf_9 post f zx0 zx2 zx4 zx5 zu) ih x0 x2 x4 x5 v1 u h
      · have h := h.2 hc
        refine x_goto (tgt := 87) d_D_nameOf_30 rfl ?_
        refine x_sub [1, 2, 3, 4] rfl ?_
        exact w_D_nameOf_87 l D cs Ev hE adK adV fm X d post (fun zx0 zx2 zx4 zx5 zu => P_D_nameOf_9 post f zx0 zx2 zx4 zx5 zu) ih x0 x2 x4 x5 u h
def P_D_nameOf (post : Int64 → Unit → Prop) (a0 : Int64) (u : Unit) : Prop := (∃ g, P_D_nameOf_9 post g a0 0 0 56 u)
set_option maxHeartbeats 600000 in
set_option maxRecDepth 100000 in
theorem c_D_nameOf (l : Launch) (D : va_G) (cs : Nat → ClassId) (Ev : (Nat → Prop) → State → Prop) (hE : xEok Ev) (adK adV : Nat → Nat) (fm : Option Nat) (X : xEv adK adV fm Ev) (d : Nat) (post : Int64 → Unit → Prop) (a0 : Int64) (u : Unit) (h : P_D_nameOf post a0 u) : xC l D clX (tysX cs) Ev y_D_nameOf w_D_nameOf (rmD (d + 1)) wd0 [.long a0] u (pJ post) 0 0 := by
  unfold P_D_nameOf at h
  refine xC.of (cc := b_D_nameOf) (nL := 8) (ret := (some .long)) (by decide) rfl (Nat.le_of_ble_eq_true rfl) ?_
  show RR l D clX (tysX cs) Ev "DeckFront" b_D_nameOf 8 w_D_nameOf (rmD (d + 1)) (some .long) wd0 (pJ post) 0 0 0 0 0 [(0, .long a0)] [] u
  refine x_lconst (v := 0) d_D_nameOf_0 (by decide) ?_
  refine x_lstore_n (lv' := [(2, .long 0), (0, .long a0)]) d_D_nameOf_1 (by decide) rfl ?_
  refine x_iconst (v := 0) d_D_nameOf_2 (by decide) ?_
  refine x_istore (lv' := [(4, .int 0), (2, .long 0), (0, .long a0)]) d_D_nameOf_3 (by decide) rfl ?_
  refine x_bipush (v := 56) d_D_nameOf_5 (by decide) ?_
  refine x_istore (lv' := [(5, .int 56), (4, .int 0), (2, .long 0), (0, .long a0)]) d_D_nameOf_7 (by decide) rfl ?_
  refine x_sub [3, 2, 1, 0] rfl ?_
  obtain ⟨f9, h⟩ := h
  exact w_D_nameOf_9 l D cs Ev hE adK adV fm X d post  f9 a0 0 0 56 u h
def P_D_typeByLetter_31 (post : Int32 → Unit → Prop) (x2 : Int64) (u : Unit) : Prop := (((lg_cmp x2 73) < 0 → post 2 u) ∧ (¬ (lg_cmp x2 73) < 0 → ((0 < (lg_cmp x2 78) → post 2 u) ∧ (¬ 0 < (lg_cmp x2 78) → post 1 u))))
set_option maxHeartbeats 600000 in
set_option maxRecDepth 100000 in
theorem w_D_typeByLetter_31 (l : Launch) (D : va_G) (cs : Nat → ClassId) (Ev : (Nat → Prop) → State → Prop) (hE : xEok Ev) (adK adV : Nat → Nat) (fm : Option Nat) (X : xEv adK adV fm Ev) (d : Nat) (post : Int32 → Unit → Prop) (x2 : Int64) (u : Unit) (h : P_D_typeByLetter_31 post  x2 u) : RR l D clX (tysX cs) Ev "DeckFront" b_D_typeByLetter 5 w_D_typeByLetter (rmD (d + 0)) (some .int) wd0 (pI post) 0 0 0 0 31 [(2, .long x2)] [] u := by
  unfold P_D_typeByLetter_31 at h
  refine x_lload_n (x := x2) d_D_typeByLetter_31 rfl ?_
  refine x_ldc2 (v := 73) (cG tw_323) d_D_typeByLetter_32 ?_
  refine x_lcmp d_D_typeByLetter_35 ?_
  refine x_if_lt (tgt := 51) d_D_typeByLetter_36 rfl (fun hc => ?_) (fun hc => ?_)
  · have h := h.1 hc
    refine x_iconst (v := 2) d_D_typeByLetter_51 (by decide) ?_
    refine x_iret d_D_typeByLetter_52 ⟨_, rfl, ?_⟩
    exact h
  · have h := h.2 hc
    refine x_lload_n (x := x2) d_D_typeByLetter_39 rfl ?_
    refine x_ldc2 (v := 78) (cG tw_324) d_D_typeByLetter_40 ?_
    refine x_lcmp d_D_typeByLetter_43 ?_
    refine x_if_gt (tgt := 51) d_D_typeByLetter_44 rfl (fun hc => ?_) (fun hc => ?_)
    · have h := h.1 hc
      refine x_iconst (v := 2) d_D_typeByLetter_51 (by decide) ?_
      refine x_iret d_D_typeByLetter_52 ⟨_, rfl, ?_⟩
      exact h
    · have h := h.2 hc
      refine x_iconst (v := 1) d_D_typeByLetter_47 (by decide) ?_
      refine x_goto (tgt := 52) d_D_typeByLetter_48 rfl ?_
      refine x_iret d_D_typeByLetter_52 ⟨_, rfl, ?_⟩
      exact h
def P_D_typeByLetter_5 (post : Int32 → Unit → Prop) : Nat → Int64 → Int32 → Unit → Prop
  | 0, _, _, _ => False
  | f + 1, x2, x4, u => ((6 ≤ x4 → P_D_typeByLetter_31 post x2 u) ∧ (¬ 6 ≤ x4 → (((lg_cmp x2 255) ≤ 0 → P_D_typeByLetter_31 post x2 u) ∧ (¬ (lg_cmp x2 255) ≤ 0 → (∀ v1, v1 = ((x2.toUInt64 >>> ((8 : Int32).toInt64.toUInt64 &&& Int64.toUInt64 63)).toInt64) → P_D_typeByLetter_5 post f v1 (x4 + 1) u)))))
set_option maxHeartbeats 600000 in
set_option maxRecDepth 100000 in
theorem w_D_typeByLetter_5 (l : Launch) (D : va_G) (cs : Nat → ClassId) (Ev : (Nat → Prop) → State → Prop) (hE : xEok Ev) (adK adV : Nat → Nat) (fm : Option Nat) (X : xEv adK adV fm Ev) (d : Nat) (post : Int32 → Unit → Prop) : ∀ (f : Nat) (x2 : Int64) (x4 : Int32) (u : Unit), P_D_typeByLetter_5 post  f x2 x4 u → RR l D clX (tysX cs) Ev "DeckFront" b_D_typeByLetter 5 w_D_typeByLetter (rmD (d + 0)) (some .int) wd0 (pI post) 0 0 0 0 5 [(2, .long x2), (4, .int x4)] [] u := by
  intro f
  induction f with
  | zero => intro x2 x4 u h; exact h.elim
  | succ f ih =>
    intro x2 x4 u h
    unfold P_D_typeByLetter_5 at h
    refine x_iload (x := x4) d_D_typeByLetter_5 rfl ?_
    refine x_bipush (v := 6) d_D_typeByLetter_7 (by decide) ?_
    refine x_icmp_ge (tgt := 31) d_D_typeByLetter_9 rfl (fun hc => ?_) (fun hc => ?_)
    · have h := h.1 hc
      refine x_sub [0] rfl ?_
      exact w_D_typeByLetter_31 l D cs Ev hE adK adV fm X d post  x2 u h
    · have h := h.2 hc
      refine x_lload_n (x := x2) d_D_typeByLetter_12 rfl ?_
      refine x_ldc2 (v := 255) (cG tw_322) d_D_typeByLetter_13 ?_
      refine x_lcmp d_D_typeByLetter_16 ?_
      refine x_if_le (tgt := 31) d_D_typeByLetter_17 rfl (fun hc => ?_) (fun hc => ?_)
      · have h := h.1 hc
        refine x_sub [0] rfl ?_
        exact w_D_typeByLetter_31 l D cs Ev hE adK adV fm X d post  x2 u h
      · have h := h.2 hc
        refine x_lload_n (x := x2) d_D_typeByLetter_20 rfl ?_
        refine x_bipush (v := 8) d_D_typeByLetter_21 (by decide) ?_
        refine x_lushr d_D_typeByLetter_23 ?_
        refine x_topJ (fun v1 ev1 => ?_)
        have h := h v1 ev1
        refine x_lstore_n (lv' := [(2, .long v1), (4, .int x4)]) d_D_typeByLetter_24 (by decide) rfl ?_
        refine x_iinc (v := x4 + 1) (lv' := [(4, .int (x4 + 1)), (2, .long v1)]) d_D_typeByLetter_25 rfl rfl (by decide) rfl ?_
        refine x_goto (tgt := 5) d_D_typeByLetter_28 rfl ?_
        refine x_sub [1, 0] rfl ?_
        exact ih v1 (x4 + 1) u h
def P_D_typeByLetter (post : Int32 → Unit → Prop) (a0 : Int64) (u : Unit) : Prop := (∃ g, P_D_typeByLetter_5 post g a0 1 u)
set_option maxHeartbeats 600000 in
set_option maxRecDepth 100000 in
theorem c_D_typeByLetter (l : Launch) (D : va_G) (cs : Nat → ClassId) (Ev : (Nat → Prop) → State → Prop) (hE : xEok Ev) (adK adV : Nat → Nat) (fm : Option Nat) (X : xEv adK adV fm Ev) (d : Nat) (post : Int32 → Unit → Prop) (a0 : Int64) (u : Unit) (h : P_D_typeByLetter post a0 u) : xC l D clX (tysX cs) Ev y_D_typeByLetter w_D_typeByLetter (rmD (d + 0)) wd0 [.long a0] u (pI post) 0 0 := by
  unfold P_D_typeByLetter at h
  refine xC.of (cc := b_D_typeByLetter) (nL := 5) (ret := (some .int)) (by decide) rfl (Nat.le_of_ble_eq_true rfl) ?_
  show RR l D clX (tysX cs) Ev "DeckFront" b_D_typeByLetter 5 w_D_typeByLetter (rmD (d + 0)) (some .int) wd0 (pI post) 0 0 0 0 0 [(0, .long a0)] [] u
  refine x_lload_n (x := a0) d_D_typeByLetter_0 rfl ?_
  refine x_lstore_n (lv' := [(2, .long a0), (0, .long a0)]) d_D_typeByLetter_1 (by decide) rfl ?_
  refine x_iconst (v := 1) d_D_typeByLetter_2 (by decide) ?_
  refine x_istore (lv' := [(4, .int 1), (2, .long a0), (0, .long a0)]) d_D_typeByLetter_3 (by decide) rfl ?_
  refine x_sub [1, 0] rfl ?_
  obtain ⟨f9, h⟩ := h
  exact w_D_typeByLetter_5 l D cs Ev hE adK adV fm X d post  f9 a0 1 u h
def P_C_isCardSign (post : Int32 → Unit → Prop) (a0 : Int32) (u : Unit) : Prop := ((¬ (isLet a0) = 0 → post 1 u) ∧ ((isLet a0) = 0 → ((¬ (isDig a0) = 0 → post 1 u) ∧ ((isDig a0) = 0 → P_JS_indexOf0 (fun r2 u1 => ((r2 < 0 → post 0 u1) ∧ (¬ r2 < 0 → post 1 u1))) 0 ((a0.toUInt32 % 65536).toInt32) ()))))
set_option maxHeartbeats 600000 in
set_option maxRecDepth 100000 in
theorem c_C_isCardSign (l : Launch) (D : va_G) (cs : Nat → ClassId) (Ev : (Nat → Prop) → State → Prop) (hE : xEok Ev) (adK adV : Nat → Nat) (fm : Option Nat) (X : xEv adK adV fm Ev) (d : Nat) (post : Int32 → Unit → Prop) (a0 : Int32) (u : Unit) (h : P_C_isCardSign post a0 u) : xC l D clX (tysX cs) Ev y_C_isCardSign w_C_isCardSign (rmD (d + 4)) wd0 [.int a0] u (pI post) 0 0 := by
  unfold P_C_isCardSign at h
  refine xC.of (cc := b_C_isCardSign) (nL := 1) (ret := (some .boolean)) (by decide) rfl (Nat.le_of_ble_eq_true rfl) ?_
  show RR l D clX (tysX cs) Ev "DeckFront$Card" b_C_isCardSign 1 w_C_isCardSign (rmD (d + 4)) (some .boolean) wd0 (pI post) 0 0 0 0 0 [(0, .int a0)] [] u
  refine x_iload_n (x := a0) d_C_isCardSign_0 rfl ?_
  refine x_callSN (st := []) (k_C_23 X) x_id (cf_D_isLetter l D cs Ev hE adK adV fm X (d + 3) a0) hE (rmD_ok (by omega) (by decide)) rfl (Nat.le_of_ble_eq_true rfl) rfl d_C_isCardSign_1 (x_rI (fun x u1 h9 => ?_))
  obtain ⟨rfl, rfl⟩ := h9
  refine x_if_ne (tgt := 24) d_C_isCardSign_4 rfl (fun hc => ?_) (fun hc => ?_)
  · have h := h.1 hc
    refine x_iconst (v := 1) d_C_isCardSign_24 (by decide) ?_
    refine x_goto (tgt := 29) d_C_isCardSign_25 rfl ?_
    refine x_zret rfl d_C_isCardSign_29 ⟨_, rfl, ?_⟩
    exact h
  · have h := h.2 hc
    refine x_iload_n (x := a0) d_C_isCardSign_7 rfl ?_
    refine x_callSN (st := []) (k_C_26 X) x_id (cf_D_isDigit l D cs Ev hE adK adV fm X (d + 3) a0) hE (rmD_ok (by omega) (by decide)) rfl (Nat.le_of_ble_eq_true rfl) rfl d_C_isCardSign_8 (x_rI (fun x u1 h9 => ?_))
    obtain ⟨rfl, rfl⟩ := h9
    refine x_if_ne (tgt := 24) d_C_isCardSign_11 rfl (fun hc => ?_) (fun hc => ?_)
    · have h := h.1 hc
      refine x_iconst (v := 1) d_C_isCardSign_24 (by decide) ?_
      refine x_goto (tgt := 29) d_C_isCardSign_25 rfl ?_
      refine x_zret rfl d_C_isCardSign_29 ⟨_, rfl, ?_⟩
      exact h
    · have h := h.2 hc
      refine x_ldcS (fun A s h9 => ((X A s h9).2.1 0 (by decide)).1) d_C_isCardSign_14 ?_
      refine x_iload_n (x := a0) d_C_isCardSign_16 rfl ?_
      refine x_i2c d_C_isCardSign_17 ?_
      refine x_callVO (st := []) k_C_31 (fun A s h9 => ((X A s h9).2.1 0 (by decide)).2.1) x_id (c_JS_indexOf0 l D cs Ev hE adK adV fm X 0 (by decide) (d + 0) _ ((a0.toUInt32 % 65536).toInt32) () h) hE (rmD_ok (by omega) (by decide)) rfl (Nat.le_of_ble_eq_true rfl) rfl d_C_isCardSign_18 (x_rI (fun r2 u1 h => ?_))
      refine x_if_lt (tgt := 28) d_C_isCardSign_21 rfl (fun hc => ?_) (fun hc => ?_)
      · have h := h.1 hc
        refine x_iconst (v := 0) d_C_isCardSign_28 (by decide) ?_
        refine x_zret rfl d_C_isCardSign_29 ⟨_, rfl, ?_⟩
        exact h
      · have h := h.2 hc
        refine x_iconst (v := 1) d_C_isCardSign_24 (by decide) ?_
        refine x_goto (tgt := 29) d_C_isCardSign_25 rfl ?_
        refine x_zret rfl d_C_isCardSign_29 ⟨_, rfl, ?_⟩
        exact h
def P_C_append_116 (post : Int32 → MS → Prop) (K73 : Int64 → Int32 → MS → Prop) (x1 : Int64) (x4 : Int32) (u : MS) : Prop := K73 x1 (x4 + (-8)) u
set_option maxHeartbeats 600000 in
set_option maxRecDepth 100000 in
theorem w_C_append_116 (l : Launch) (D : va_G) (cs : Nat → ClassId) (Ev : (Nat → Prop) → State → Prop) (hE : xEok Ev) (adK adV : Nat → Nat) (fm : Option Nat) (X : xEv adK adV fm Ev) (o : Nat) (a : Nat → Nat) (d : Nat) (post : Int32 → MS → Prop) (K73 : Int64 → Int32 → MS → Prop) (hK73 : ∀ (x1 : Int64) (x4 : Int32) (u : MS), K73 x1 x4 u → RR l D clX (tysX cs) Ev "DeckFront$Card" b_C_append 6 w_C_append (rmD (d + 5)) (some .boolean) (wdC o a cs) (pI post) 0 0 0 0 73 [(0, .ref o), (1, .long x1), (4, .int x4)] [] u) (x1 : Int64) (x4 : Int32) (u : MS) (h : P_C_append_116 post K73 x1 x4 u) : RR l D clX (tysX cs) Ev "DeckFront$Card" b_C_append 6 w_C_append (rmD (d + 5)) (some .boolean) (wdC o a cs) (pI post) 0 0 0 0 116 [(0, .ref o), (1, .long x1), (4, .int x4)] [] u := by
  unfold P_C_append_116 at h
  refine x_iinc (v := x4 + (-8)) (lv' := [(4, .int (x4 + (-8))), (0, .ref o), (1, .long x1)]) d_C_append_116 rfl rfl (by decide) rfl ?_
  refine x_goto (tgt := 73) d_C_append_119 rfl ?_
  refine x_sub [1, 2, 0] rfl ?_
  exact hK73 x1 (x4 + (-8)) u h
def P_C_append_73 (post : Int32 → MS → Prop) : Nat → Int64 → Int32 → MS → Prop
  | 0, _, _, _ => False
  | f + 1, x1, x4, u => ((x4 < 0 → post 1 u) ∧ (¬ x4 < 0 → (∀ v1, v1 = ((((x1.toUInt64 >>> (x4.toInt64.toUInt64 &&& Int64.toUInt64 63)).toInt64).toInt32) &&& (255 : Int32)) → ((v1 = 0 → P_C_append_116 post (fun zx1 zx4 zu => P_C_append_73 post f zx1 zx4 zu) x1 x4 u) ∧ (¬ v1 = 0 → (vp_in (gI u 1) 72 ∧ P_C_append_116 post (fun zx1 zx4 zu => P_C_append_73 post f zx1 zx4 zu) x1 x4 (sI (sA u 0 (gI u 1).toNatClampNeg (vp_nar .char ((v1.toUInt32 % 65536).toInt32))) 1 ((gI u 1) + (1 : Int32)))))))))
set_option maxHeartbeats 600000 in
set_option maxRecDepth 100000 in
theorem w_C_append_73 (l : Launch) (D : va_G) (cs : Nat → ClassId) (Ev : (Nat → Prop) → State → Prop) (hE : xEok Ev) (adK adV : Nat → Nat) (fm : Option Nat) (X : xEv adK adV fm Ev) (o : Nat) (a : Nat → Nat) (d : Nat) (post : Int32 → MS → Prop) : ∀ (f : Nat) (x1 : Int64) (x4 : Int32) (u : MS), P_C_append_73 post  f x1 x4 u → RR l D clX (tysX cs) Ev "DeckFront$Card" b_C_append 6 w_C_append (rmD (d + 5)) (some .boolean) (wdC o a cs) (pI post) 0 0 0 0 73 [(0, .ref o), (1, .long x1), (4, .int x4)] [] u := by
  intro f
  induction f with
  | zero => intro x1 x4 u h; exact h.elim
  | succ f ih =>
    intro x1 x4 u h
    unfold P_C_append_73 at h
    refine x_iload (x := x4) d_C_append_73 rfl ?_
    refine x_if_lt (tgt := 122) d_C_append_75 rfl (fun hc => ?_) (fun hc => ?_)
    · have h := h.1 hc
      refine x_iconst (v := 1) d_C_append_122 (by decide) ?_
      refine x_zret rfl d_C_append_123 ⟨_, rfl, ?_⟩
      exact h
    · have h := h.2 hc
      refine x_lload_n (x := x1) d_C_append_78 rfl ?_
      refine x_iload (x := x4) d_C_append_79 rfl ?_
      refine x_lushr d_C_append_81 ?_
      refine x_l2i d_C_append_82 ?_
      refine x_sipush (v := 255) d_C_append_83 (by decide) ?_
      refine x_iand d_C_append_86 ?_
      refine x_topI (fun v1 ev1 => ?_)
      have h := h v1 ev1
      refine x_istore (lv' := [(5, .int v1), (0, .ref o), (1, .long x1), (4, .int x4)]) d_C_append_87 (by decide) rfl ?_
      refine x_iload (x := v1) d_C_append_89 rfl ?_
      refine x_if_eq (tgt := 116) d_C_append_91 rfl (fun hc => ?_) (fun hc => ?_)
      · have h := h.1 hc
        refine x_sub [1, 2, 3] rfl ?_
        exact w_C_append_116 l D cs Ev hE adK adV fm X o a d post (fun zx1 zx4 zu => P_C_append_73 post f zx1 zx4 zu) ih x1 x4 u h
      · have h := h.2 hc
        refine x_aload_n (x := o) d_C_append_94 rfl ?_
        refine x_get (v := .ref (a 0)) f_C_9 (eC_o _ _ _ _) rfl d_C_append_95 ?_
        refine x_aload_n (x := o) d_C_append_98 rfl ?_
        refine x_get (v := .int (gI u 1)) f_C_19 (eC_o _ _ _ _) rfl d_C_append_99 ?_
        refine x_iload (x := v1) d_C_append_102 rfl ?_
        refine x_i2c d_C_append_104 ?_
        refine x_cast (t0 := 1) (eC_0 _ _ _ _) rfl h.1 (sC_0 _ _ _ _ _ _) d_C_append_105 ?_
        have h := h.2
        refine x_aload_n (x := o) d_C_append_106 rfl ?_
        refine x_dup d_C_append_107 rfl ?_
        refine x_get (v := .int (gI u 1)) f_C_19 (eC_o _ _ _ _) rfl d_C_append_108 ?_
        refine x_iconst (v := 1) d_C_append_111 (by decide) ?_
        refine x_iadd d_C_append_112 ?_
        refine x_put f_C_19 fw_C_1 (eC_o _ _ _ _) rfl rfl (Nat.le_of_ble_eq_true rfl) (sC_1 _ _ _ _ _) d_C_append_113 ?_
        refine x_sub [1, 2, 3] rfl ?_
        exact w_C_append_116 l D cs Ev hE adK adV fm X o a d post (fun zx1 zx4 zu => P_C_append_73 post f zx1 zx4 zu) ih x1 x4 (sI (sA u 0 (gI u 1).toNatClampNeg (vp_nar .char ((v1.toUInt32 % 65536).toInt32))) 1 ((gI u 1) + (1 : Int32))) h
def P_C_append_48 (post : Int32 → MS → Prop) (K6 : Int64 → Int32 → Int32 → MS → Prop) (x1 : Int64) (x4 : Int32) (s0 : Int32) (s1 : Int32) (u : MS) : Prop := (∀ v3, v3 = (s1 + s0) → K6 x1 v3 (x4 + (-8)) u)
set_option maxHeartbeats 600000 in
set_option maxRecDepth 100000 in
theorem w_C_append_48 (l : Launch) (D : va_G) (cs : Nat → ClassId) (Ev : (Nat → Prop) → State → Prop) (hE : xEok Ev) (adK adV : Nat → Nat) (fm : Option Nat) (X : xEv adK adV fm Ev) (o : Nat) (a : Nat → Nat) (d : Nat) (post : Int32 → MS → Prop) (K6 : Int64 → Int32 → Int32 → MS → Prop) (hK6 : ∀ (x1 : Int64) (x3 : Int32) (x4 : Int32) (u : MS), K6 x1 x3 x4 u → RR l D clX (tysX cs) Ev "DeckFront$Card" b_C_append 6 w_C_append (rmD (d + 5)) (some .boolean) (wdC o a cs) (pI post) 0 0 0 0 6 [(0, .ref o), (1, .long x1), (3, .int x3), (4, .int x4)] [] u) (x1 : Int64) (x4 : Int32) (s0 : Int32) (s1 : Int32) (u : MS) (h : P_C_append_48 post K6 x1 x4 s0 s1 u) : RR l D clX (tysX cs) Ev "DeckFront$Card" b_C_append 6 w_C_append (rmD (d + 5)) (some .boolean) (wdC o a cs) (pI post) 0 0 0 0 48 [(0, .ref o), (1, .long x1), (4, .int x4)] [.int s0, .int s1] u := by
  unfold P_C_append_48 at h
  refine x_iadd d_C_append_48 ?_
  refine x_topI (fun v3 ev3 => ?_)
  have h := h v3 ev3
  refine x_istore_n (lv' := [(3, .int v3), (0, .ref o), (1, .long x1), (4, .int x4)]) d_C_append_49 (by decide) rfl ?_
  refine x_iinc (v := x4 + (-8)) (lv' := [(4, .int (x4 + (-8))), (3, .int v3), (0, .ref o), (1, .long x1)]) d_C_append_50 rfl rfl (by decide) rfl ?_
  refine x_goto (tgt := 6) d_C_append_53 rfl ?_
  refine x_sub [2, 3, 1, 0] rfl ?_
  exact hK6 x1 v3 (x4 + (-8)) u h
def P_C_append_37 (post : Int32 → MS → Prop) (K6 : Int64 → Int32 → Int32 → MS → Prop) (x1 : Int64) (x3 : Int32) (x4 : Int32) (x5 : Int32) (u : MS) : Prop := ((¬ x5 = 0 → P_C_append_48 post K6 x1 x4 1 x3 u) ∧ (x5 = 0 → P_C_append_48 post K6 x1 x4 0 x3 u))
set_option maxHeartbeats 600000 in
set_option maxRecDepth 100000 in
theorem w_C_append_37 (l : Launch) (D : va_G) (cs : Nat → ClassId) (Ev : (Nat → Prop) → State → Prop) (hE : xEok Ev) (adK adV : Nat → Nat) (fm : Option Nat) (X : xEv adK adV fm Ev) (o : Nat) (a : Nat → Nat) (d : Nat) (post : Int32 → MS → Prop) (K6 : Int64 → Int32 → Int32 → MS → Prop) (hK6 : ∀ (x1 : Int64) (x3 : Int32) (x4 : Int32) (u : MS), K6 x1 x3 x4 u → RR l D clX (tysX cs) Ev "DeckFront$Card" b_C_append 6 w_C_append (rmD (d + 5)) (some .boolean) (wdC o a cs) (pI post) 0 0 0 0 6 [(0, .ref o), (1, .long x1), (3, .int x3), (4, .int x4)] [] u) (x1 : Int64) (x3 : Int32) (x4 : Int32) (x5 : Int32) (u : MS) (h : P_C_append_37 post K6 x1 x3 x4 x5 u) : RR l D clX (tysX cs) Ev "DeckFront$Card" b_C_append 6 w_C_append (rmD (d + 5)) (some .boolean) (wdC o a cs) (pI post) 0 0 0 0 37 [(0, .ref o), (1, .long x1), (3, .int x3), (4, .int x4), (5, .int x5)] [] u := by
  unfold P_C_append_37 at h
  refine x_iload_n (x := x3) d_C_append_37 rfl ?_
  refine x_iload (x := x5) d_C_append_38 rfl ?_
  refine x_if_ne (tgt := 47) d_C_append_40 rfl (fun hc => ?_) (fun hc => ?_)
  · have h := h.1 hc
    refine x_iconst (v := 1) d_C_append_47 (by decide) ?_
    refine x_sub [0, 1, 3] rfl ?_
    exact w_C_append_48 l D cs Ev hE adK adV fm X o a d post K6 hK6 x1 x4 1 x3 u h
  · have h := h.2 hc
    refine x_iconst (v := 0) d_C_append_43 (by decide) ?_
    refine x_goto (tgt := 48) d_C_append_44 rfl ?_
    refine x_sub [0, 1, 3] rfl ?_
    exact w_C_append_48 l D cs Ev hE adK adV fm X o a d post K6 hK6 x1 x4 0 x3 u h
def P_C_append_6 (post : Int32 → MS → Prop) : Nat → Int64 → Int32 → Int32 → MS → Prop
  | 0, _, _, _, _ => False
  | f + 1, x1, x3, x4, u => ((x4 < 0 → ((((gI u 1) + x3) ≤ 72 → (∃ g, P_C_append_73 post g x1 56 u)) ∧ (¬ ((gI u 1) + x3) ≤ 72 → post 0 u))) ∧ (¬ x4 < 0 → (∀ v2, v2 = ((((x1.toUInt64 >>> (x4.toInt64.toUInt64 &&& Int64.toUInt64 63)).toInt64).toInt32) &&& (255 : Int32)) → ((v2 = 0 → P_C_append_37 post (fun zx1 zx3 zx4 zu => P_C_append_6 post f zx1 zx3 zx4 zu) x1 x3 x4 v2 u) ∧ (¬ v2 = 0 → P_C_isCardSign (fun r5 u4 => ((¬ r5 = 0 → P_C_append_37 post (fun zx1 zx3 zx4 zu => P_C_append_6 post f zx1 zx3 zx4 zu) x1 x3 x4 v2 u) ∧ (r5 = 0 → post 0 u))) v2 ())))))
set_option maxHeartbeats 600000 in
set_option maxRecDepth 100000 in
theorem w_C_append_6 (l : Launch) (D : va_G) (cs : Nat → ClassId) (Ev : (Nat → Prop) → State → Prop) (hE : xEok Ev) (adK adV : Nat → Nat) (fm : Option Nat) (X : xEv adK adV fm Ev) (o : Nat) (a : Nat → Nat) (d : Nat) (post : Int32 → MS → Prop) : ∀ (f : Nat) (x1 : Int64) (x3 : Int32) (x4 : Int32) (u : MS), P_C_append_6 post  f x1 x3 x4 u → RR l D clX (tysX cs) Ev "DeckFront$Card" b_C_append 6 w_C_append (rmD (d + 5)) (some .boolean) (wdC o a cs) (pI post) 0 0 0 0 6 [(0, .ref o), (1, .long x1), (3, .int x3), (4, .int x4)] [] u := by
  intro f
  induction f with
  | zero => intro x1 x3 x4 u h; exact h.elim
  | succ f ih =>
    intro x1 x3 x4 u h
    unfold P_C_append_6 at h
    refine x_iload (x := x4) d_C_append_6 rfl ?_
    refine x_if_lt (tgt := 56) d_C_append_8 rfl (fun hc => ?_) (fun hc => ?_)
    · have h := h.1 hc
      refine x_aload_n (x := o) d_C_append_56 rfl ?_
      refine x_get (v := .int (gI u 1)) f_C_19 (eC_o _ _ _ _) rfl d_C_append_57 ?_
      refine x_iload_n (x := x3) d_C_append_60 rfl ?_
      refine x_iadd d_C_append_61 ?_
      refine x_bipush (v := 72) d_C_append_62 (by decide) ?_
      refine x_icmp_le (tgt := 69) d_C_append_64 rfl (fun hc => ?_) (fun hc => ?_)
      · have h := h.1 hc
        refine x_bipush (v := 56) d_C_append_69 (by decide) ?_
        refine x_istore (lv' := [(4, .int 56), (0, .ref o), (1, .long x1), (3, .int x3)]) d_C_append_71 (by decide) rfl ?_
        refine x_sub [1, 2, 0] rfl ?_
        obtain ⟨f9, h⟩ := h
        exact w_C_append_73 l D cs Ev hE adK adV fm X o a d post  f9 x1 56 u h
      · have h := h.2 hc
        refine x_iconst (v := 0) d_C_append_67 (by decide) ?_
        refine x_zret rfl d_C_append_68 ⟨_, rfl, ?_⟩
        exact h
    · have h := h.2 hc
      refine x_lload_n (x := x1) d_C_append_11 rfl ?_
      refine x_iload (x := x4) d_C_append_12 rfl ?_
      refine x_lushr d_C_append_14 ?_
      refine x_l2i d_C_append_15 ?_
      refine x_sipush (v := 255) d_C_append_16 (by decide) ?_
      refine x_iand d_C_append_19 ?_
      refine x_topI (fun v2 ev2 => ?_)
      have h := h v2 ev2
      refine x_istore (lv' := [(5, .int v2), (0, .ref o), (1, .long x1), (3, .int x3), (4, .int x4)]) d_C_append_20 (by decide) rfl ?_
      refine x_iload (x := v2) d_C_append_22 rfl ?_
      refine x_if_eq (tgt := 37) d_C_append_24 rfl (fun hc => ?_) (fun hc => ?_)
      · have h := h.1 hc
        refine x_sub [1, 2, 3, 4, 0] rfl ?_
        exact w_C_append_37 l D cs Ev hE adK adV fm X o a d post (fun zx1 zx3 zx4 zu => P_C_append_6 post f zx1 zx3 zx4 zu) ih x1 x3 x4 v2 u h
      · have h := h.2 hc
        refine x_iload (x := v2) d_C_append_27 rfl ?_
        refine x_callS (st := []) k_C_15 x_none (c_C_isCardSign l D cs Ev hE adK adV fm X (d + 0) _ v2 () h) hE (rmD_ok (by omega) (by decide)) rfl (Nat.le_of_ble_eq_true rfl) rfl d_C_append_29 (x_rI (fun r5 u4 h => ?_))
        refine x_if_ne (tgt := 37) d_C_append_32 rfl (fun hc => ?_) (fun hc => ?_)
        · have h := h.1 hc
          refine x_sub [1, 2, 3, 4, 0] rfl ?_
          exact w_C_append_37 l D cs Ev hE adK adV fm X o a d post (fun zx1 zx3 zx4 zu => P_C_append_6 post f zx1 zx3 zx4 zu) ih x1 x3 x4 v2 u h
        · have h := h.2 hc
          refine x_iconst (v := 0) d_C_append_35 (by decide) ?_
          refine x_zret rfl d_C_append_36 ⟨_, rfl, ?_⟩
          exact h
def P_C_append (post : Int32 → MS → Prop) (a0 : Int64) (u : MS) : Prop := (∃ g, P_C_append_6 post g a0 0 56 u)
set_option maxHeartbeats 600000 in
set_option maxRecDepth 100000 in
theorem c_C_append (l : Launch) (D : va_G) (cs : Nat → ClassId) (Ev : (Nat → Prop) → State → Prop) (hE : xEok Ev) (adK adV : Nat → Nat) (fm : Option Nat) (X : xEv adK adV fm Ev) (o : Nat) (a : Nat → Nat) (d : Nat) (post : Int32 → MS → Prop) (a0 : Int64) (u : MS) (h : P_C_append post a0 u) : xC l D clX (tysX cs) Ev y_C_append w_C_append (rmD (d + 5)) (wdC o a cs) [.ref o, .long a0] u (pI post) 0 0 := by
  unfold P_C_append at h
  refine xC.of (cc := b_C_append) (nL := 6) (ret := (some .boolean)) (by decide) rfl (Nat.le_of_ble_eq_true rfl) ?_
  show RR l D clX (tysX cs) Ev "DeckFront$Card" b_C_append 6 w_C_append (rmD (d + 5)) (some .boolean) (wdC o a cs) (pI post) 0 0 0 0 0 [(0, .ref o), (1, .long a0)] [] u
  refine x_iconst (v := 0) d_C_append_0 (by decide) ?_
  refine x_istore_n (lv' := [(3, .int 0), (0, .ref o), (1, .long a0)]) d_C_append_1 (by decide) rfl ?_
  refine x_bipush (v := 56) d_C_append_2 (by decide) ?_
  refine x_istore (lv' := [(4, .int 56), (3, .int 0), (0, .ref o), (1, .long a0)]) d_C_append_4 (by decide) rfl ?_
  refine x_sub [2, 3, 1, 0] rfl ?_
  obtain ⟨f9, h⟩ := h
  exact w_C_append_6 l D cs Ev hE adK adV fm X o a d post  f9 a0 0 56 u h
def P_C_isBlankTo_2 (post : Int32 → MS → Prop) : Nat → Int32 → Int32 → MS → Prop
  | 0, _, _, _ => False
  | f + 1, x1, x2, u => ((x1 ≤ x2 → post 1 u) ∧ (¬ x1 ≤ x2 → (((gI u 1) ≤ x2 → post 1 u) ∧ (¬ (gI u 1) ≤ x2 → (vp_in x2 72 ∧ (((gA u 0 x2.toNatClampNeg) = 32 → P_C_isBlankTo_2 post f x1 (x2 + 1) u) ∧ (¬ (gA u 0 x2.toNatClampNeg) = 32 → post 0 u)))))))
set_option maxHeartbeats 600000 in
set_option maxRecDepth 100000 in
theorem w_C_isBlankTo_2 (l : Launch) (D : va_G) (cs : Nat → ClassId) (Ev : (Nat → Prop) → State → Prop) (hE : xEok Ev) (adK adV : Nat → Nat) (fm : Option Nat) (X : xEv adK adV fm Ev) (o : Nat) (a : Nat → Nat) (d : Nat) (post : Int32 → MS → Prop) : ∀ (f : Nat) (x1 : Int32) (x2 : Int32) (u : MS), P_C_isBlankTo_2 post  f x1 x2 u → RR l D clX (tysX cs) Ev "DeckFront$Card" b_C_isBlankTo 3 w_C_isBlankTo (rmD (d + 0)) (some .boolean) (wdC o a cs) (pI post) 0 0 0 0 2 [(0, .ref o), (1, .int x1), (2, .int x2)] [] u := by
  intro f
  induction f with
  | zero => intro x1 x2 u h; exact h.elim
  | succ f ih =>
    intro x1 x2 u h
    unfold P_C_isBlankTo_2 at h
    refine x_iload_n (x := x2) d_C_isBlankTo_2 rfl ?_
    refine x_iload_n (x := x1) d_C_isBlankTo_3 rfl ?_
    refine x_icmp_ge (tgt := 34) d_C_isBlankTo_4 rfl (fun hc => ?_) (fun hc => ?_)
    · have h := h.1 hc
      refine x_iconst (v := 1) d_C_isBlankTo_34 (by decide) ?_
      refine x_zret rfl d_C_isBlankTo_35 ⟨_, rfl, ?_⟩
      exact h
    · have h := h.2 hc
      refine x_iload_n (x := x2) d_C_isBlankTo_7 rfl ?_
      refine x_aload_n (x := o) d_C_isBlankTo_8 rfl ?_
      refine x_get (v := .int (gI u 1)) f_C_19 (eC_o _ _ _ _) rfl d_C_isBlankTo_9 ?_
      refine x_icmp_ge (tgt := 34) d_C_isBlankTo_12 rfl (fun hc => ?_) (fun hc => ?_)
      · have h := h.1 hc
        refine x_iconst (v := 1) d_C_isBlankTo_34 (by decide) ?_
        refine x_zret rfl d_C_isBlankTo_35 ⟨_, rfl, ?_⟩
        exact h
      · have h := h.2 hc
        refine x_aload_n (x := o) d_C_isBlankTo_15 rfl ?_
        refine x_get (v := .ref (a 0)) f_C_9 (eC_o _ _ _ _) rfl d_C_isBlankTo_16 ?_
        refine x_iload_n (x := x2) d_C_isBlankTo_19 rfl ?_
        refine x_cald (t0 := 1) (eC_0 _ _ _ _) rfl h.1 d_C_isBlankTo_20 ?_
        have h := h.2
        refine x_bipush (v := 32) d_C_isBlankTo_21 (by decide) ?_
        refine x_icmp_eq (tgt := 28) d_C_isBlankTo_23 rfl (fun hc => ?_) (fun hc => ?_)
        · have h := h.1 hc
          refine x_iinc (v := x2 + 1) (lv' := [(2, .int (x2 + 1)), (0, .ref o), (1, .int x1)]) d_C_isBlankTo_28 rfl rfl (by decide) rfl ?_
          refine x_goto (tgt := 2) d_C_isBlankTo_31 rfl ?_
          refine x_sub [1, 2, 0] rfl ?_
          exact ih x1 (x2 + 1) u h
        · have h := h.2 hc
          refine x_iconst (v := 0) d_C_isBlankTo_26 (by decide) ?_
          refine x_zret rfl d_C_isBlankTo_27 ⟨_, rfl, ?_⟩
          exact h
def P_C_isBlankTo (post : Int32 → MS → Prop) (a0 : Int32) (u : MS) : Prop := (∃ g, P_C_isBlankTo_2 post g a0 0 u)
set_option maxHeartbeats 600000 in
set_option maxRecDepth 100000 in
theorem c_C_isBlankTo (l : Launch) (D : va_G) (cs : Nat → ClassId) (Ev : (Nat → Prop) → State → Prop) (hE : xEok Ev) (adK adV : Nat → Nat) (fm : Option Nat) (X : xEv adK adV fm Ev) (o : Nat) (a : Nat → Nat) (d : Nat) (post : Int32 → MS → Prop) (a0 : Int32) (u : MS) (h : P_C_isBlankTo post a0 u) : xC l D clX (tysX cs) Ev y_C_isBlankTo w_C_isBlankTo (rmD (d + 0)) (wdC o a cs) [.ref o, .int a0] u (pI post) 0 0 := by
  unfold P_C_isBlankTo at h
  refine xC.of (cc := b_C_isBlankTo) (nL := 3) (ret := (some .boolean)) (by decide) rfl (Nat.le_of_ble_eq_true rfl) ?_
  show RR l D clX (tysX cs) Ev "DeckFront$Card" b_C_isBlankTo 3 w_C_isBlankTo (rmD (d + 0)) (some .boolean) (wdC o a cs) (pI post) 0 0 0 0 0 [(0, .ref o), (1, .int a0)] [] u
  refine x_iconst (v := 0) d_C_isBlankTo_0 (by decide) ?_
  refine x_istore_n (lv' := [(2, .int 0), (0, .ref o), (1, .int a0)]) d_C_isBlankTo_1 (by decide) rfl ?_
  refine x_sub [1, 2, 0] rfl ?_
  obtain ⟨f9, h⟩ := h
  exact w_C_isBlankTo_2 l D cs Ev hE adK adV fm X o a d post  f9 a0 0 u h
def P_C_isComment_29 (post : Int32 → MS → Prop) (u : MS) : Prop := P_C_isBlankTo (fun r2 u1 => ((r2 = 0 → post 0 u1) ∧ (¬ r2 = 0 → post 1 u1))) (gI u 1) u
set_option maxHeartbeats 600000 in
set_option maxRecDepth 100000 in
theorem w_C_isComment_29 (l : Launch) (D : va_G) (cs : Nat → ClassId) (Ev : (Nat → Prop) → State → Prop) (hE : xEok Ev) (adK adV : Nat → Nat) (fm : Option Nat) (X : xEv adK adV fm Ev) (o : Nat) (a : Nat → Nat) (d : Nat) (post : Int32 → MS → Prop) (u : MS) (h : P_C_isComment_29 post   u) : RR l D clX (tysX cs) Ev "DeckFront$Card" b_C_isComment 1 w_C_isComment (rmD (d + 1)) (some .boolean) (wdC o a cs) (pI post) 0 0 0 0 29 [(0, .ref o)] [] u := by
  unfold P_C_isComment_29 at h
  refine x_aload_n (x := o) d_C_isComment_29 rfl ?_
  refine x_aload_n (x := o) d_C_isComment_30 rfl ?_
  refine x_get (v := .int (gI u 1)) f_C_19 (eC_o _ _ _ _) rfl d_C_isComment_31 ?_
  refine x_callV (st := []) k_C_37 rfl (eC_o _ _ _ _) x_id (c_C_isBlankTo l D cs Ev hE adK adV fm X o a (d + 0) _ (gI u 1) u h) hE (rmD_ok (by omega) (by decide)) rfl (Nat.le_of_ble_eq_true rfl) rfl d_C_isComment_34 (x_rI (fun r2 u1 h => ?_))
  refine x_if_eq (tgt := 44) d_C_isComment_37 rfl (fun hc => ?_) (fun hc => ?_)
  · have h := h.1 hc
    refine x_iconst (v := 0) d_C_isComment_44 (by decide) ?_
    refine x_zret rfl d_C_isComment_45 ⟨_, rfl, ?_⟩
    exact h
  · have h := h.2 hc
    refine x_iconst (v := 1) d_C_isComment_40 (by decide) ?_
    refine x_goto (tgt := 45) d_C_isComment_41 rfl ?_
    refine x_zret rfl d_C_isComment_45 ⟨_, rfl, ?_⟩
    exact h
def P_C_isComment (post : Int32 → MS → Prop) (u : MS) : Prop := (((gI u 1) ≤ 0 → P_C_isComment_29 post u) ∧ (¬ (gI u 1) ≤ 0 → (vp_in (0 : Int32) 72 ∧ (((gA u 0 (0 : Int32).toNatClampNeg) = 67 → post 1 u) ∧ (¬ (gA u 0 (0 : Int32).toNatClampNeg) = 67 → (vp_in (0 : Int32) 72 ∧ (((gA u 0 (0 : Int32).toNatClampNeg) = 42 → post 1 u) ∧ (¬ (gA u 0 (0 : Int32).toNatClampNeg) = 42 → P_C_isComment_29 post u))))))))
set_option maxHeartbeats 600000 in
set_option maxRecDepth 100000 in
theorem c_C_isComment (l : Launch) (D : va_G) (cs : Nat → ClassId) (Ev : (Nat → Prop) → State → Prop) (hE : xEok Ev) (adK adV : Nat → Nat) (fm : Option Nat) (X : xEv adK adV fm Ev) (o : Nat) (a : Nat → Nat) (d : Nat) (post : Int32 → MS → Prop) (u : MS) (h : P_C_isComment post  u) : xC l D clX (tysX cs) Ev y_C_isComment w_C_isComment (rmD (d + 1)) (wdC o a cs) [.ref o] u (pI post) 0 0 := by
  unfold P_C_isComment at h
  refine xC.of (cc := b_C_isComment) (nL := 1) (ret := (some .boolean)) (by decide) rfl (Nat.le_of_ble_eq_true rfl) ?_
  show RR l D clX (tysX cs) Ev "DeckFront$Card" b_C_isComment 1 w_C_isComment (rmD (d + 1)) (some .boolean) (wdC o a cs) (pI post) 0 0 0 0 0 [(0, .ref o)] [] u
  refine x_aload_n (x := o) d_C_isComment_0 rfl ?_
  refine x_get (v := .int (gI u 1)) f_C_19 (eC_o _ _ _ _) rfl d_C_isComment_1 ?_
  refine x_if_le (tgt := 29) d_C_isComment_4 rfl (fun hc => ?_) (fun hc => ?_)
  · have h := h.1 hc
    exact w_C_isComment_29 l D cs Ev hE adK adV fm X o a d post  u h
  · have h := h.2 hc
    refine x_aload_n (x := o) d_C_isComment_7 rfl ?_
    refine x_get (v := .ref (a 0)) f_C_9 (eC_o _ _ _ _) rfl d_C_isComment_8 ?_
    refine x_iconst (v := 0) d_C_isComment_11 (by decide) ?_
    refine x_cald (t0 := 1) (eC_0 _ _ _ _) rfl h.1 d_C_isComment_12 ?_
    have h := h.2
    refine x_bipush (v := 67) d_C_isComment_13 (by decide) ?_
    refine x_icmp_eq (tgt := 40) d_C_isComment_15 rfl (fun hc => ?_) (fun hc => ?_)
    · have h := h.1 hc
      refine x_iconst (v := 1) d_C_isComment_40 (by decide) ?_
      refine x_goto (tgt := 45) d_C_isComment_41 rfl ?_
      refine x_zret rfl d_C_isComment_45 ⟨_, rfl, ?_⟩
      exact h
    · have h := h.2 hc
      refine x_aload_n (x := o) d_C_isComment_18 rfl ?_
      refine x_get (v := .ref (a 0)) f_C_9 (eC_o _ _ _ _) rfl d_C_isComment_19 ?_
      refine x_iconst (v := 0) d_C_isComment_22 (by decide) ?_
      refine x_cald (t0 := 1) (eC_0 _ _ _ _) rfl h.1 d_C_isComment_23 ?_
      have h := h.2
      refine x_bipush (v := 42) d_C_isComment_24 (by decide) ?_
      refine x_icmp_eq (tgt := 40) d_C_isComment_26 rfl (fun hc => ?_) (fun hc => ?_)
      · have h := h.1 hc
        refine x_iconst (v := 1) d_C_isComment_40 (by decide) ?_
        refine x_goto (tgt := 45) d_C_isComment_41 rfl ?_
        refine x_zret rfl d_C_isComment_45 ⟨_, rfl, ?_⟩
        exact h
      · have h := h.2 hc
        exact w_C_isComment_29 l D cs Ev hE adK adV fm X o a d post  u h
def P_C_continuesOne (post : Int32 → MS → Prop) (u : MS) : Prop := (((gI u 1) ≤ 5 → post 0 u) ∧ (¬ (gI u 1) ≤ 5 → (vp_in (5 : Int32) 72 ∧ (((gA u 0 (5 : Int32).toNatClampNeg) = 32 → post 0 u) ∧ (¬ (gA u 0 (5 : Int32).toNatClampNeg) = 32 → (vp_in (5 : Int32) 72 ∧ (((gA u 0 (5 : Int32).toNatClampNeg) = 48 → post 0 u) ∧ (¬ (gA u 0 (5 : Int32).toNatClampNeg) = 48 → post 1 u))))))))
set_option maxHeartbeats 600000 in
set_option maxRecDepth 100000 in
theorem c_C_continuesOne (l : Launch) (D : va_G) (cs : Nat → ClassId) (Ev : (Nat → Prop) → State → Prop) (hE : xEok Ev) (adK adV : Nat → Nat) (fm : Option Nat) (X : xEv adK adV fm Ev) (o : Nat) (a : Nat → Nat) (d : Nat) (post : Int32 → MS → Prop) (u : MS) (h : P_C_continuesOne post  u) : xC l D clX (tysX cs) Ev y_C_continuesOne w_C_continuesOne (rmD (d + 0)) (wdC o a cs) [.ref o] u (pI post) 0 0 := by
  unfold P_C_continuesOne at h
  refine xC.of (cc := b_C_continuesOne) (nL := 1) (ret := (some .boolean)) (by decide) rfl (Nat.le_of_ble_eq_true rfl) ?_
  show RR l D clX (tysX cs) Ev "DeckFront$Card" b_C_continuesOne 1 w_C_continuesOne (rmD (d + 0)) (some .boolean) (wdC o a cs) (pI post) 0 0 0 0 0 [(0, .ref o)] [] u
  refine x_aload_n (x := o) d_C_continuesOne_0 rfl ?_
  refine x_get (v := .int (gI u 1)) f_C_19 (eC_o _ _ _ _) rfl d_C_continuesOne_1 ?_
  refine x_iconst (v := 5) d_C_continuesOne_4 (by decide) ?_
  refine x_icmp_le (tgt := 34) d_C_continuesOne_5 rfl (fun hc => ?_) (fun hc => ?_)
  · have h := h.1 hc
    refine x_iconst (v := 0) d_C_continuesOne_34 (by decide) ?_
    refine x_zret rfl d_C_continuesOne_35 ⟨_, rfl, ?_⟩
    exact h
  · have h := h.2 hc
    refine x_aload_n (x := o) d_C_continuesOne_8 rfl ?_
    refine x_get (v := .ref (a 0)) f_C_9 (eC_o _ _ _ _) rfl d_C_continuesOne_9 ?_
    refine x_iconst (v := 5) d_C_continuesOne_12 (by decide) ?_
    refine x_cald (t0 := 1) (eC_0 _ _ _ _) rfl h.1 d_C_continuesOne_13 ?_
    have h := h.2
    refine x_bipush (v := 32) d_C_continuesOne_14 (by decide) ?_
    refine x_icmp_eq (tgt := 34) d_C_continuesOne_16 rfl (fun hc => ?_) (fun hc => ?_)
    · have h := h.1 hc
      refine x_iconst (v := 0) d_C_continuesOne_34 (by decide) ?_
      refine x_zret rfl d_C_continuesOne_35 ⟨_, rfl, ?_⟩
      exact h
    · have h := h.2 hc
      refine x_aload_n (x := o) d_C_continuesOne_19 rfl ?_
      refine x_get (v := .ref (a 0)) f_C_9 (eC_o _ _ _ _) rfl d_C_continuesOne_20 ?_
      refine x_iconst (v := 5) d_C_continuesOne_23 (by decide) ?_
      refine x_cald (t0 := 1) (eC_0 _ _ _ _) rfl h.1 d_C_continuesOne_24 ?_
      have h := h.2
      refine x_bipush (v := 48) d_C_continuesOne_25 (by decide) ?_
      refine x_icmp_eq (tgt := 34) d_C_continuesOne_27 rfl (fun hc => ?_) (fun hc => ?_)
      · have h := h.1 hc
        refine x_iconst (v := 0) d_C_continuesOne_34 (by decide) ?_
        refine x_zret rfl d_C_continuesOne_35 ⟨_, rfl, ?_⟩
        exact h
      · have h := h.2 hc
        refine x_iconst (v := 1) d_C_continuesOne_30 (by decide) ?_
        refine x_goto (tgt := 35) d_C_continuesOne_31 rfl ?_
        refine x_zret rfl d_C_continuesOne_35 ⟨_, rfl, ?_⟩
        exact h
def P_C_hasGoodLabelField_53 (post : Int32 → MS → Prop) (K15 : Int32 → MS → Prop) (x1 : Int32) (u : MS) : Prop := K15 (x1 + 1) u
set_option maxHeartbeats 600000 in
set_option maxRecDepth 100000 in
theorem w_C_hasGoodLabelField_53 (l : Launch) (D : va_G) (cs : Nat → ClassId) (Ev : (Nat → Prop) → State → Prop) (hE : xEok Ev) (adK adV : Nat → Nat) (fm : Option Nat) (X : xEv adK adV fm Ev) (o : Nat) (a : Nat → Nat) (d : Nat) (post : Int32 → MS → Prop) (K15 : Int32 → MS → Prop) (hK15 : ∀ (x1 : Int32) (u : MS), K15 x1 u → RR l D clX (tysX cs) Ev "DeckFront$Card" b_C_hasGoodLabelField 2 w_C_hasGoodLabelField (rmD (d + 1)) (some .boolean) (wdC o a cs) (pI post) 0 0 0 0 15 [(0, .ref o), (1, .int x1)] [] u) (x1 : Int32) (u : MS) (h : P_C_hasGoodLabelField_53 post K15 x1 u) : RR l D clX (tysX cs) Ev "DeckFront$Card" b_C_hasGoodLabelField 2 w_C_hasGoodLabelField (rmD (d + 1)) (some .boolean) (wdC o a cs) (pI post) 0 0 0 0 53 [(0, .ref o), (1, .int x1)] [] u := by
  unfold P_C_hasGoodLabelField_53 at h
  refine x_iinc (v := x1 + 1) (lv' := [(1, .int (x1 + 1)), (0, .ref o)]) d_C_hasGoodLabelField_53 rfl rfl (by decide) rfl ?_
  refine x_goto (tgt := 15) d_C_hasGoodLabelField_56 rfl ?_
  refine x_sub [1, 0] rfl ?_
  exact hK15 (x1 + 1) u h
def P_C_hasGoodLabelField_15 (post : Int32 → MS → Prop) : Nat → Int32 → MS → Prop
  | 0, _, _ => False
  | f + 1, x1, u => ((5 ≤ x1 → post 1 u) ∧ (¬ 5 ≤ x1 → (((gI u 1) ≤ x1 → post 1 u) ∧ (¬ (gI u 1) ≤ x1 → (vp_in x1 72 ∧ (((gA u 0 x1.toNatClampNeg) = 32 → P_C_hasGoodLabelField_53 post (fun zx1 zu => P_C_hasGoodLabelField_15 post f zx1 zu) x1 u) ∧ (¬ (gA u 0 x1.toNatClampNeg) = 32 → (vp_in x1 72 ∧ ((¬ (isDig (gA u 0 x1.toNatClampNeg)) = 0 → P_C_hasGoodLabelField_53 post (fun zx1 zu => P_C_hasGoodLabelField_15 post f zx1 zu) x1 u) ∧ ((isDig (gA u 0 x1.toNatClampNeg)) = 0 → post 0 u))))))))))
set_option maxHeartbeats 600000 in
set_option maxRecDepth 100000 in
theorem w_C_hasGoodLabelField_15 (l : Launch) (D : va_G) (cs : Nat → ClassId) (Ev : (Nat → Prop) → State → Prop) (hE : xEok Ev) (adK adV : Nat → Nat) (fm : Option Nat) (X : xEv adK adV fm Ev) (o : Nat) (a : Nat → Nat) (d : Nat) (post : Int32 → MS → Prop) : ∀ (f : Nat) (x1 : Int32) (u : MS), P_C_hasGoodLabelField_15 post  f x1 u → RR l D clX (tysX cs) Ev "DeckFront$Card" b_C_hasGoodLabelField 2 w_C_hasGoodLabelField (rmD (d + 1)) (some .boolean) (wdC o a cs) (pI post) 0 0 0 0 15 [(0, .ref o), (1, .int x1)] [] u := by
  intro f
  induction f with
  | zero => intro x1 u h; exact h.elim
  | succ f ih =>
    intro x1 u h
    unfold P_C_hasGoodLabelField_15 at h
    refine x_iload_n (x := x1) d_C_hasGoodLabelField_15 rfl ?_
    refine x_iconst (v := 5) d_C_hasGoodLabelField_16 (by decide) ?_
    refine x_icmp_ge (tgt := 59) d_C_hasGoodLabelField_17 rfl (fun hc => ?_) (fun hc => ?_)
    · have h := h.1 hc
      refine x_iconst (v := 1) d_C_hasGoodLabelField_59 (by decide) ?_
      refine x_zret rfl d_C_hasGoodLabelField_60 ⟨_, rfl, ?_⟩
      exact h
    · have h := h.2 hc
      refine x_iload_n (x := x1) d_C_hasGoodLabelField_20 rfl ?_
      refine x_aload_n (x := o) d_C_hasGoodLabelField_21 rfl ?_
      refine x_get (v := .int (gI u 1)) f_C_19 (eC_o _ _ _ _) rfl d_C_hasGoodLabelField_22 ?_
      refine x_icmp_ge (tgt := 59) d_C_hasGoodLabelField_25 rfl (fun hc => ?_) (fun hc => ?_)
      · have h := h.1 hc
        refine x_iconst (v := 1) d_C_hasGoodLabelField_59 (by decide) ?_
        refine x_zret rfl d_C_hasGoodLabelField_60 ⟨_, rfl, ?_⟩
        exact h
      · have h := h.2 hc
        refine x_aload_n (x := o) d_C_hasGoodLabelField_28 rfl ?_
        refine x_get (v := .ref (a 0)) f_C_9 (eC_o _ _ _ _) rfl d_C_hasGoodLabelField_29 ?_
        refine x_iload_n (x := x1) d_C_hasGoodLabelField_32 rfl ?_
        refine x_cald (t0 := 1) (eC_0 _ _ _ _) rfl h.1 d_C_hasGoodLabelField_33 ?_
        have h := h.2
        refine x_bipush (v := 32) d_C_hasGoodLabelField_34 (by decide) ?_
        refine x_icmp_eq (tgt := 53) d_C_hasGoodLabelField_36 rfl (fun hc => ?_) (fun hc => ?_)
        · have h := h.1 hc
          exact w_C_hasGoodLabelField_53 l D cs Ev hE adK adV fm X o a d post (fun zx1 zu => P_C_hasGoodLabelField_15 post f zx1 zu) ih x1 u h
        · have h := h.2 hc
          refine x_aload_n (x := o) d_C_hasGoodLabelField_39 rfl ?_
          refine x_get (v := .ref (a 0)) f_C_9 (eC_o _ _ _ _) rfl d_C_hasGoodLabelField_40 ?_
          refine x_iload_n (x := x1) d_C_hasGoodLabelField_43 rfl ?_
          refine x_cald (t0 := 1) (eC_0 _ _ _ _) rfl h.1 d_C_hasGoodLabelField_44 ?_
          have h := h.2
          refine x_callSN (st := []) (k_C_26 X) x_none (cf_D_isDigit l D cs Ev hE adK adV fm X (d + 0) (gA u 0 x1.toNatClampNeg)) hE (rmD_ok (by omega) (by decide)) rfl (Nat.le_of_ble_eq_true rfl) rfl d_C_hasGoodLabelField_45 (x_rI (fun x u1 h9 => ?_))
          obtain ⟨rfl, rfl⟩ := h9
          refine x_if_ne (tgt := 53) d_C_hasGoodLabelField_48 rfl (fun hc => ?_) (fun hc => ?_)
          · have h := h.1 hc
            exact w_C_hasGoodLabelField_53 l D cs Ev hE adK adV fm X o a d post (fun zx1 zu => P_C_hasGoodLabelField_15 post f zx1 zu) ih x1 u h
          · have h := h.2 hc
            refine x_iconst (v := 0) d_C_hasGoodLabelField_51 (by decide) ?_
            refine x_zret rfl d_C_hasGoodLabelField_52 ⟨_, rfl, ?_⟩
            exact h
def P_C_hasGoodLabelField (post : Int32 → MS → Prop) (u : MS) : Prop := P_C_continuesOne (fun r2 u1 => ((r2 = 0 → (∃ g, P_C_hasGoodLabelField_15 post g 0 u1)) ∧ (¬ r2 = 0 → P_C_isBlankTo (fun r4 u3 => (narrow .boolean (.int r4) = .int r4 ∧ post r4 u3)) (5 : Int32) u1))) u
set_option maxHeartbeats 600000 in
set_option maxRecDepth 100000 in
theorem c_C_hasGoodLabelField (l : Launch) (D : va_G) (cs : Nat → ClassId) (Ev : (Nat → Prop) → State → Prop) (hE : xEok Ev) (adK adV : Nat → Nat) (fm : Option Nat) (X : xEv adK adV fm Ev) (o : Nat) (a : Nat → Nat) (d : Nat) (post : Int32 → MS → Prop) (u : MS) (h : P_C_hasGoodLabelField post  u) : xC l D clX (tysX cs) Ev y_C_hasGoodLabelField w_C_hasGoodLabelField (rmD (d + 1)) (wdC o a cs) [.ref o] u (pI post) 0 0 := by
  unfold P_C_hasGoodLabelField at h
  refine xC.of (cc := b_C_hasGoodLabelField) (nL := 2) (ret := (some .boolean)) (by decide) rfl (Nat.le_of_ble_eq_true rfl) ?_
  show RR l D clX (tysX cs) Ev "DeckFront$Card" b_C_hasGoodLabelField 2 w_C_hasGoodLabelField (rmD (d + 1)) (some .boolean) (wdC o a cs) (pI post) 0 0 0 0 0 [(0, .ref o)] [] u
  refine x_aload_n (x := o) d_C_hasGoodLabelField_0 rfl ?_
  refine x_callV (st := []) k_C_40 rfl (eC_o _ _ _ _) x_id (c_C_continuesOne l D cs Ev hE adK adV fm X o a (d + 0) _ u h) hE (rmD_ok (by omega) (by decide)) rfl (Nat.le_of_ble_eq_true rfl) rfl d_C_hasGoodLabelField_1 (x_rI (fun r2 u1 h => ?_))
  refine x_if_eq (tgt := 13) d_C_hasGoodLabelField_4 rfl (fun hc => ?_) (fun hc => ?_)
  · have h := h.1 hc
    refine x_iconst (v := 0) d_C_hasGoodLabelField_13 (by decide) ?_
    refine x_istore_n (lv' := [(1, .int 0), (0, .ref o)]) d_C_hasGoodLabelField_14 (by decide) rfl ?_
    refine x_sub [1, 0] rfl ?_
    obtain ⟨f9, h⟩ := h
    exact w_C_hasGoodLabelField_15 l D cs Ev hE adK adV fm X o a d post  f9 0 u1 h
  · have h := h.2 hc
    refine x_aload_n (x := o) d_C_hasGoodLabelField_7 rfl ?_
    refine x_iconst (v := 5) d_C_hasGoodLabelField_8 (by decide) ?_
    refine x_callV (st := []) k_C_37 rfl (eC_o _ _ _ _) x_id (c_C_isBlankTo l D cs Ev hE adK adV fm X o a (d + 0) _ (5 : Int32) u1 h) hE (rmD_ok (by omega) (by decide)) rfl (Nat.le_of_ble_eq_true rfl) rfl d_C_hasGoodLabelField_9 (x_rI (fun r4 u3 h => ?_))
    refine x_zret h.1 d_C_hasGoodLabelField_12 ⟨_, rfl, ?_⟩
    exact h.2
def P_C_numberInLabelField_44 (post : Int32 → MS → Prop) (K4 : Int32 → Int32 → MS → Prop) (x1 : Int32) (x2 : Int32) (u : MS) : Prop := K4 x1 (x2 + 1) u
set_option maxHeartbeats 600000 in
set_option maxRecDepth 100000 in
theorem w_C_numberInLabelField_44 (l : Launch) (D : va_G) (cs : Nat → ClassId) (Ev : (Nat → Prop) → State → Prop) (hE : xEok Ev) (adK adV : Nat → Nat) (fm : Option Nat) (X : xEv adK adV fm Ev) (o : Nat) (a : Nat → Nat) (d : Nat) (post : Int32 → MS → Prop) (K4 : Int32 → Int32 → MS → Prop) (hK4 : ∀ (x1 : Int32) (x2 : Int32) (u : MS), K4 x1 x2 u → RR l D clX (tysX cs) Ev "DeckFront$Card" b_C_numberInLabelField 3 w_C_numberInLabelField (rmD (d + 1)) (some .int) (wdC o a cs) (pI post) 0 0 0 0 4 [(0, .ref o), (1, .int x1), (2, .int x2)] [] u) (x1 : Int32) (x2 : Int32) (u : MS) (h : P_C_numberInLabelField_44 post K4 x1 x2 u) : RR l D clX (tysX cs) Ev "DeckFront$Card" b_C_numberInLabelField 3 w_C_numberInLabelField (rmD (d + 1)) (some .int) (wdC o a cs) (pI post) 0 0 0 0 44 [(0, .ref o), (1, .int x1), (2, .int x2)] [] u := by
  unfold P_C_numberInLabelField_44 at h
  refine x_iinc (v := x2 + 1) (lv' := [(2, .int (x2 + 1)), (0, .ref o), (1, .int x1)]) d_C_numberInLabelField_44 rfl rfl (by decide) rfl ?_
  refine x_goto (tgt := 4) d_C_numberInLabelField_47 rfl ?_
  refine x_sub [1, 2, 0] rfl ?_
  exact hK4 x1 (x2 + 1) u h
def P_C_numberInLabelField_4 (post : Int32 → MS → Prop) : Nat → Int32 → Int32 → MS → Prop
  | 0, _, _, _ => False
  | f + 1, x1, x2, u => ((5 ≤ x2 → post x1 u) ∧ (¬ 5 ≤ x2 → (((gI u 1) ≤ x2 → post x1 u) ∧ (¬ (gI u 1) ≤ x2 → (vp_in x2 72 ∧ (((isDig (gA u 0 x2.toNatClampNeg)) = 0 → P_C_numberInLabelField_44 post (fun zx1 zx2 zu => P_C_numberInLabelField_4 post f zx1 zx2 zu) x1 x2 u) ∧ (¬ (isDig (gA u 0 x2.toNatClampNeg)) = 0 → (vp_in x2 72 ∧ (∀ v1, v1 = (((x1 * (10 : Int32)) + (gA u 0 x2.toNatClampNeg)) - (48 : Int32)) → P_C_numberInLabelField_44 post (fun zx1 zx2 zu => P_C_numberInLabelField_4 post f zx1 zx2 zu) v1 x2 u)))))))))
set_option maxHeartbeats 600000 in
set_option maxRecDepth 100000 in
theorem w_C_numberInLabelField_4 (l : Launch) (D : va_G) (cs : Nat → ClassId) (Ev : (Nat → Prop) → State → Prop) (hE : xEok Ev) (adK adV : Nat → Nat) (fm : Option Nat) (X : xEv adK adV fm Ev) (o : Nat) (a : Nat → Nat) (d : Nat) (post : Int32 → MS → Prop) : ∀ (f : Nat) (x1 : Int32) (x2 : Int32) (u : MS), P_C_numberInLabelField_4 post  f x1 x2 u → RR l D clX (tysX cs) Ev "DeckFront$Card" b_C_numberInLabelField 3 w_C_numberInLabelField (rmD (d + 1)) (some .int) (wdC o a cs) (pI post) 0 0 0 0 4 [(0, .ref o), (1, .int x1), (2, .int x2)] [] u := by
  intro f
  induction f with
  | zero => intro x1 x2 u h; exact h.elim
  | succ f ih =>
    intro x1 x2 u h
    unfold P_C_numberInLabelField_4 at h
    refine x_iload_n (x := x2) d_C_numberInLabelField_4 rfl ?_
    refine x_iconst (v := 5) d_C_numberInLabelField_5 (by decide) ?_
    refine x_icmp_ge (tgt := 50) d_C_numberInLabelField_6 rfl (fun hc => ?_) (fun hc => ?_)
    · have h := h.1 hc
      refine x_iload_n (x := x1) d_C_numberInLabelField_50 rfl ?_
      refine x_iret d_C_numberInLabelField_51 ⟨_, rfl, ?_⟩
      exact h
    · have h := h.2 hc
      refine x_iload_n (x := x2) d_C_numberInLabelField_9 rfl ?_
      refine x_aload_n (x := o) d_C_numberInLabelField_10 rfl ?_
      refine x_get (v := .int (gI u 1)) f_C_19 (eC_o _ _ _ _) rfl d_C_numberInLabelField_11 ?_
      refine x_icmp_ge (tgt := 50) d_C_numberInLabelField_14 rfl (fun hc => ?_) (fun hc => ?_)
      · have h := h.1 hc
        refine x_iload_n (x := x1) d_C_numberInLabelField_50 rfl ?_
        refine x_iret d_C_numberInLabelField_51 ⟨_, rfl, ?_⟩
        exact h
      · have h := h.2 hc
        refine x_aload_n (x := o) d_C_numberInLabelField_17 rfl ?_
        refine x_get (v := .ref (a 0)) f_C_9 (eC_o _ _ _ _) rfl d_C_numberInLabelField_18 ?_
        refine x_iload_n (x := x2) d_C_numberInLabelField_21 rfl ?_
        refine x_cald (t0 := 1) (eC_0 _ _ _ _) rfl h.1 d_C_numberInLabelField_22 ?_
        have h := h.2
        refine x_callSN (st := []) (k_C_26 X) x_none (cf_D_isDigit l D cs Ev hE adK adV fm X (d + 0) (gA u 0 x2.toNatClampNeg)) hE (rmD_ok (by omega) (by decide)) rfl (Nat.le_of_ble_eq_true rfl) rfl d_C_numberInLabelField_23 (x_rI (fun x u1 h9 => ?_))
        obtain ⟨rfl, rfl⟩ := h9
        refine x_if_eq (tgt := 44) d_C_numberInLabelField_26 rfl (fun hc => ?_) (fun hc => ?_)
        · have h := h.1 hc
          exact w_C_numberInLabelField_44 l D cs Ev hE adK adV fm X o a d post (fun zx1 zx2 zu => P_C_numberInLabelField_4 post f zx1 zx2 zu) ih x1 x2 u h
        · have h := h.2 hc
          refine x_iload_n (x := x1) d_C_numberInLabelField_29 rfl ?_
          refine x_bipush (v := 10) d_C_numberInLabelField_30 (by decide) ?_
          refine x_imul d_C_numberInLabelField_32 ?_
          refine x_aload_n (x := o) d_C_numberInLabelField_33 rfl ?_
          refine x_get (v := .ref (a 0)) f_C_9 (eC_o _ _ _ _) rfl d_C_numberInLabelField_34 ?_
          refine x_iload_n (x := x2) d_C_numberInLabelField_37 rfl ?_
          refine x_cald (t0 := 1) (eC_0 _ _ _ _) rfl h.1 d_C_numberInLabelField_38 ?_
          have h := h.2
          refine x_iadd d_C_numberInLabelField_39 ?_
          refine x_bipush (v := 48) d_C_numberInLabelField_40 (by decide) ?_
          refine x_isub d_C_numberInLabelField_42 ?_
          refine x_topI (fun v1 ev1 => ?_)
          have h := h v1 ev1
          refine x_istore_n (lv' := [(1, .int v1), (0, .ref o), (2, .int x2)]) d_C_numberInLabelField_43 (by decide) rfl ?_
          refine x_sub [1, 0, 2] rfl ?_
          exact w_C_numberInLabelField_44 l D cs Ev hE adK adV fm X o a d post (fun zx1 zx2 zu => P_C_numberInLabelField_4 post f zx1 zx2 zu) ih v1 x2 u h
def P_C_numberInLabelField (post : Int32 → MS → Prop) (u : MS) : Prop := (∃ g, P_C_numberInLabelField_4 post g 0 0 u)
set_option maxHeartbeats 600000 in
set_option maxRecDepth 100000 in
theorem c_C_numberInLabelField (l : Launch) (D : va_G) (cs : Nat → ClassId) (Ev : (Nat → Prop) → State → Prop) (hE : xEok Ev) (adK adV : Nat → Nat) (fm : Option Nat) (X : xEv adK adV fm Ev) (o : Nat) (a : Nat → Nat) (d : Nat) (post : Int32 → MS → Prop) (u : MS) (h : P_C_numberInLabelField post  u) : xC l D clX (tysX cs) Ev y_C_numberInLabelField w_C_numberInLabelField (rmD (d + 1)) (wdC o a cs) [.ref o] u (pI post) 0 0 := by
  unfold P_C_numberInLabelField at h
  refine xC.of (cc := b_C_numberInLabelField) (nL := 3) (ret := (some .int)) (by decide) rfl (Nat.le_of_ble_eq_true rfl) ?_
  show RR l D clX (tysX cs) Ev "DeckFront$Card" b_C_numberInLabelField 3 w_C_numberInLabelField (rmD (d + 1)) (some .int) (wdC o a cs) (pI post) 0 0 0 0 0 [(0, .ref o)] [] u
  refine x_iconst (v := 0) d_C_numberInLabelField_0 (by decide) ?_
  refine x_istore_n (lv' := [(1, .int 0), (0, .ref o)]) d_C_numberInLabelField_1 (by decide) rfl ?_
  refine x_iconst (v := 0) d_C_numberInLabelField_2 (by decide) ?_
  refine x_istore_n (lv' := [(2, .int 0), (1, .int 0), (0, .ref o)]) d_C_numberInLabelField_3 (by decide) rfl ?_
  refine x_sub [2, 1, 0] rfl ?_
  obtain ⟨f9, h⟩ := h
  exact w_C_numberInLabelField_4 l D cs Ev hE adK adV fm X o a d post  f9 0 0 u h
end
section
def P_T_wipe (post : MS → Prop) (u : MS) : Prop := post (sI (sI (sI u 4 (0 : Int32)) 5 (0 : Int32)) 6 (0 : Int32))
set_option maxHeartbeats 600000 in
set_option maxRecDepth 100000 in
theorem c_T_wipe (l : Launch) (D : va_G) (cs : Nat → ClassId) (Ev : (Nat → Prop) → State → Prop) (hE : xEok Ev) (adK adV : Nat → Nat) (fm : Option Nat) (X : xEv adK adV fm Ev) (o : Nat) (a : Nat → Nat) (d : Nat) (post : MS → Prop) (u : MS) (h : P_T_wipe post  u) : xC l D clX (tysX cs) Ev y_T_wipe w_T_wipe (rmD (d + 0)) (wdS o a cs) [.ref o] u (pV post) 0 0 := by
  unfold P_T_wipe at h
  refine xC.of (cc := b_T_wipe) (nL := 1) (ret := none) (by decide) rfl (Nat.le_of_ble_eq_true rfl) ?_
  show RR l D clX (tysX cs) Ev "DeckFront$Tape" b_T_wipe 1 w_T_wipe (rmD (d + 0)) none (wdS o a cs) (pV post) 0 0 0 0 0 [(0, .ref o)] [] u
  refine x_aload_n (x := o) d_T_wipe_0 rfl ?_
  refine x_iconst (v := 0) d_T_wipe_1 (by decide) ?_
  refine x_put f_T_25 fw_S_4 (eS_o _ _ _ _) rfl rfl (Nat.le_of_ble_eq_true rfl) (sS_4 _ _ _ _ _) d_T_wipe_2 ?_
  refine x_aload_n (x := o) d_T_wipe_5 rfl ?_
  refine x_iconst (v := 0) d_T_wipe_6 (by decide) ?_
  refine x_put f_T_29 fw_S_5 (eS_o _ _ _ _) rfl rfl (Nat.le_of_ble_eq_true rfl) (sS_5 _ _ _ _ _) d_T_wipe_7 ?_
  refine x_aload_n (x := o) d_T_wipe_10 rfl ?_
  refine x_iconst (v := 0) d_T_wipe_11 (by decide) ?_
  refine x_put f_T_32 fw_S_6 (eS_o _ _ _ _) rfl rfl (Nat.le_of_ble_eq_true rfl) (sS_6 _ _ _ _ _) d_T_wipe_12 ?_
  refine x_vret d_T_wipe_15 ⟨rfl, ?_⟩
  exact h
def P_T_goBackTo_2 (post : MS → Prop) : Nat → Int32 → Int32 → MS → Prop
  | 0, _, _, _ => False
  | f + 1, x1, x2, u => (((gI u 5) ≤ x2 → post (sI u 5 x1)) ∧ (¬ (gI u 5) ≤ x2 → (((gI u 4) ≤ x2 → post (sI u 5 x1)) ∧ (¬ (gI u 4) ≤ x2 → (vp_in x2 80 ∧ (vp_in x2 80 ∧ (vp_in x2 80 ∧ P_T_goBackTo_2 post f x1 (x2 + 1) (sA (sA (sA u 1 x2.toNatClampNeg (0 : Int32)) 2 x2.toNatClampNeg (0 : Int32)) 3 x2.toNatClampNeg (0 : Int32)))))))))
set_option maxHeartbeats 600000 in
set_option maxRecDepth 100000 in
theorem w_T_goBackTo_2 (l : Launch) (D : va_G) (cs : Nat → ClassId) (Ev : (Nat → Prop) → State → Prop) (hE : xEok Ev) (adK adV : Nat → Nat) (fm : Option Nat) (X : xEv adK adV fm Ev) (o : Nat) (a : Nat → Nat) (d : Nat) (post : MS → Prop) : ∀ (f : Nat) (x1 : Int32) (x2 : Int32) (u : MS), P_T_goBackTo_2 post  f x1 x2 u → RR l D clX (tysX cs) Ev "DeckFront$Tape" b_T_goBackTo 3 w_T_goBackTo (rmD (d + 0)) none (wdS o a cs) (pV post) 0 0 0 0 2 [(0, .ref o), (1, .int x1), (2, .int x2)] [] u := by
  intro f
  induction f with
  | zero => intro x1 x2 u h; exact h.elim
  | succ f ih =>
    intro x1 x2 u h
    unfold P_T_goBackTo_2 at h
    refine x_iload_n (x := x2) d_T_goBackTo_2 rfl ?_
    refine x_aload_n (x := o) d_T_goBackTo_3 rfl ?_
    refine x_get (v := .int (gI u 5)) f_T_29 (eS_o _ _ _ _) rfl d_T_goBackTo_4 ?_
    refine x_icmp_ge (tgt := 45) d_T_goBackTo_7 rfl (fun hc => ?_) (fun hc => ?_)
    · have h := h.1 hc
      refine x_aload_n (x := o) d_T_goBackTo_45 rfl ?_
      refine x_iload_n (x := x1) d_T_goBackTo_46 rfl ?_
      refine x_put f_T_29 fw_S_5 (eS_o _ _ _ _) rfl rfl (Nat.le_of_ble_eq_true rfl) (sS_5 _ _ _ _ _) d_T_goBackTo_47 ?_
      refine x_vret d_T_goBackTo_50 ⟨rfl, ?_⟩
      exact h
    · have h := h.2 hc
      refine x_iload_n (x := x2) d_T_goBackTo_10 rfl ?_
      refine x_aload_n (x := o) d_T_goBackTo_11 rfl ?_
      refine x_get (v := .int (gI u 4)) f_T_25 (eS_o _ _ _ _) rfl d_T_goBackTo_12 ?_
      refine x_icmp_ge (tgt := 45) d_T_goBackTo_15 rfl (fun hc => ?_) (fun hc => ?_)
      · have h := h.1 hc
        refine x_aload_n (x := o) d_T_goBackTo_45 rfl ?_
        refine x_iload_n (x := x1) d_T_goBackTo_46 rfl ?_
        refine x_put f_T_29 fw_S_5 (eS_o _ _ _ _) rfl rfl (Nat.le_of_ble_eq_true rfl) (sS_5 _ _ _ _ _) d_T_goBackTo_47 ?_
        refine x_vret d_T_goBackTo_50 ⟨rfl, ?_⟩
        exact h
      · have h := h.2 hc
        refine x_aload_n (x := o) d_T_goBackTo_18 rfl ?_
        refine x_get (v := .ref (a 1)) f_T_15 (eS_o _ _ _ _) rfl d_T_goBackTo_19 ?_
        refine x_iload_n (x := x2) d_T_goBackTo_22 rfl ?_
        refine x_iconst (v := 0) d_T_goBackTo_23 (by decide) ?_
        refine x_iast (t0 := 0) (eS_1 _ _ _ _) rfl h.1 (sS_1 _ _ _ _ _ _) d_T_goBackTo_24 ?_
        have h := h.2
        refine x_aload_n (x := o) d_T_goBackTo_25 rfl ?_
        refine x_get (v := .ref (a 2)) f_T_19 (eS_o _ _ _ _) rfl d_T_goBackTo_26 ?_
        refine x_iload_n (x := x2) d_T_goBackTo_29 rfl ?_
        refine x_iconst (v := 0) d_T_goBackTo_30 (by decide) ?_
        refine x_iast (t0 := 0) (eS_2 _ _ _ _) rfl h.1 (sS_2 _ _ _ _ _ _) d_T_goBackTo_31 ?_
        have h := h.2
        refine x_aload_n (x := o) d_T_goBackTo_32 rfl ?_
        refine x_get (v := .ref (a 3)) f_T_22 (eS_o _ _ _ _) rfl d_T_goBackTo_33 ?_
        refine x_iload_n (x := x2) d_T_goBackTo_36 rfl ?_
        refine x_iconst (v := 0) d_T_goBackTo_37 (by decide) ?_
        refine x_iast (t0 := 0) (eS_3 _ _ _ _) rfl h.1 (sS_3 _ _ _ _ _ _) d_T_goBackTo_38 ?_
        have h := h.2
        refine x_iinc (v := x2 + 1) (lv' := [(2, .int (x2 + 1)), (0, .ref o), (1, .int x1)]) d_T_goBackTo_39 rfl rfl (by decide) rfl ?_
        refine x_goto (tgt := 2) d_T_goBackTo_42 rfl ?_
        refine x_sub [1, 2, 0] rfl ?_
        exact ih x1 (x2 + 1) (sA (sA (sA u 1 x2.toNatClampNeg (0 : Int32)) 2 x2.toNatClampNeg (0 : Int32)) 3 x2.toNatClampNeg (0 : Int32)) h
def P_T_goBackTo (post : MS → Prop) (a0 : Int32) (u : MS) : Prop := (∃ g, P_T_goBackTo_2 post g a0 a0 u)
set_option maxHeartbeats 600000 in
set_option maxRecDepth 100000 in
theorem c_T_goBackTo (l : Launch) (D : va_G) (cs : Nat → ClassId) (Ev : (Nat → Prop) → State → Prop) (hE : xEok Ev) (adK adV : Nat → Nat) (fm : Option Nat) (X : xEv adK adV fm Ev) (o : Nat) (a : Nat → Nat) (d : Nat) (post : MS → Prop) (a0 : Int32) (u : MS) (h : P_T_goBackTo post a0 u) : xC l D clX (tysX cs) Ev y_T_goBackTo w_T_goBackTo (rmD (d + 0)) (wdS o a cs) [.ref o, .int a0] u (pV post) 0 0 := by
  unfold P_T_goBackTo at h
  refine xC.of (cc := b_T_goBackTo) (nL := 3) (ret := none) (by decide) rfl (Nat.le_of_ble_eq_true rfl) ?_
  show RR l D clX (tysX cs) Ev "DeckFront$Tape" b_T_goBackTo 3 w_T_goBackTo (rmD (d + 0)) none (wdS o a cs) (pV post) 0 0 0 0 0 [(0, .ref o), (1, .int a0)] [] u
  refine x_iload_n (x := a0) d_T_goBackTo_0 rfl ?_
  refine x_istore_n (lv' := [(2, .int a0), (0, .ref o), (1, .int a0)]) d_T_goBackTo_1 (by decide) rfl ?_
  refine x_sub [1, 2, 0] rfl ?_
  obtain ⟨f9, h⟩ := h
  exact w_T_goBackTo_2 l D cs Ev hE adK adV fm X o a d post  f9 a0 a0 u h
def P_T_isNext (post : Int32 → MS → Prop) (a0 : Int32) (u : MS) : Prop := (((gI u 4) ≤ (gI u 5) → post 0 u) ∧ (¬ (gI u 4) ≤ (gI u 5) → (vp_in (gI u 5) 80 ∧ ((¬ (gA u 0 (gI u 5).toNatClampNeg) = a0 → post 0 u) ∧ ((gA u 0 (gI u 5).toNatClampNeg) = a0 → post 1 u)))))
set_option maxHeartbeats 600000 in
set_option maxRecDepth 100000 in
theorem c_T_isNext (l : Launch) (D : va_G) (cs : Nat → ClassId) (Ev : (Nat → Prop) → State → Prop) (hE : xEok Ev) (adK adV : Nat → Nat) (fm : Option Nat) (X : xEv adK adV fm Ev) (o : Nat) (a : Nat → Nat) (d : Nat) (post : Int32 → MS → Prop) (a0 : Int32) (u : MS) (h : P_T_isNext post a0 u) : xC l D clX (tysX cs) Ev y_T_isNext w_T_isNext (rmD (d + 0)) (wdS o a cs) [.ref o, .int a0] u (pI post) 0 0 := by
  unfold P_T_isNext at h
  refine xC.of (cc := b_T_isNext) (nL := 2) (ret := (some .boolean)) (by decide) rfl (Nat.le_of_ble_eq_true rfl) ?_
  show RR l D clX (tysX cs) Ev "DeckFront$Tape" b_T_isNext 2 w_T_isNext (rmD (d + 0)) (some .boolean) (wdS o a cs) (pI post) 0 0 0 0 0 [(0, .ref o), (1, .int a0)] [] u
  refine x_aload_n (x := o) d_T_isNext_0 rfl ?_
  refine x_get (v := .int (gI u 5)) f_T_29 (eS_o _ _ _ _) rfl d_T_isNext_1 ?_
  refine x_aload_n (x := o) d_T_isNext_4 rfl ?_
  refine x_get (v := .int (gI u 4)) f_T_25 (eS_o _ _ _ _) rfl d_T_isNext_5 ?_
  refine x_icmp_ge (tgt := 28) d_T_isNext_8 rfl (fun hc => ?_) (fun hc => ?_)
  · have h := h.1 hc
    refine x_iconst (v := 0) d_T_isNext_28 (by decide) ?_
    refine x_zret rfl d_T_isNext_29 ⟨_, rfl, ?_⟩
    exact h
  · have h := h.2 hc
    refine x_aload_n (x := o) d_T_isNext_11 rfl ?_
    refine x_get (v := .ref (a 0)) f_T_9 (eS_o _ _ _ _) rfl d_T_isNext_12 ?_
    refine x_aload_n (x := o) d_T_isNext_15 rfl ?_
    refine x_get (v := .int (gI u 5)) f_T_29 (eS_o _ _ _ _) rfl d_T_isNext_16 ?_
    refine x_cald (t0 := 1) (eS_0 _ _ _ _) rfl h.1 d_T_isNext_19 ?_
    have h := h.2
    refine x_iload_n (x := a0) d_T_isNext_20 rfl ?_
    refine x_icmp_ne (tgt := 28) d_T_isNext_21 rfl (fun hc => ?_) (fun hc => ?_)
    · have h := h.1 hc
      refine x_iconst (v := 0) d_T_isNext_28 (by decide) ?_
      refine x_zret rfl d_T_isNext_29 ⟨_, rfl, ?_⟩
      exact h
    · have h := h.2 hc
      refine x_iconst (v := 1) d_T_isNext_24 (by decide) ?_
      refine x_goto (tgt := 29) d_T_isNext_25 rfl ?_
      refine x_zret rfl d_T_isNext_29 ⟨_, rfl, ?_⟩
      exact h
def P_T_stands_17 (post : Int32 → MS → Prop) (i : Nat) : Nat → Int32 → Int32 → MS → Prop
  | 0, _, _, _ => False
  | f + 1, x1, x3, u => (((nI (lenS i)) ≤ x3 → post 1 u) ∧ (¬ (nI (lenS i)) ≤ x3 → (vp_in (x1 + x3) 80 ∧ (vp_in x3 (lenS i) ∧ (((gA u 0 (x1 + x3).toNatClampNeg) = (chS i x3.toNatClampNeg) → P_T_stands_17 post i f x1 (x3 + 1) u) ∧ (¬ (gA u 0 (x1 + x3).toNatClampNeg) = (chS i x3.toNatClampNeg) → post 0 u))))))
set_option maxHeartbeats 600000 in
set_option maxRecDepth 100000 in
theorem w_T_stands_17 (l : Launch) (D : va_G) (cs : Nat → ClassId) (Ev : (Nat → Prop) → State → Prop) (hE : xEok Ev) (adK adV : Nat → Nat) (fm : Option Nat) (X : xEv adK adV fm Ev) (o : Nat) (a : Nat → Nat) (i : Nat) (hi : i < 56) (d : Nat) (post : Int32 → MS → Prop) : ∀ (f : Nat) (x1 : Int32) (x3 : Int32) (u : MS), P_T_stands_17 post i  f x1 x3 u → RR l D clX (tysX cs) Ev "DeckFront$Tape" b_T_stands 4 w_T_stands (rmD (d + 4)) (some .boolean) (wdS o a cs) (pI post) 0 0 0 0 17 [(0, .ref o), (1, .int x1), (2, .ref (adK i)), (3, .int x3)] [] u := by
  intro f
  induction f with
  | zero => intro x1 x3 u h; exact h.elim
  | succ f ih =>
    intro x1 x3 u h
    unfold P_T_stands_17 at h
    refine x_iload_n (x := x3) d_T_stands_17 rfl ?_
    refine x_aload_n (x := (adK i)) d_T_stands_18 rfl ?_
    refine x_callVO (st := [.int x3]) k_T_42 (fun A s h9 => ((X A s h9).2.1 i hi).2.1) x_none (cf_JS_length l D cs Ev hE adK adV fm X i hi (d + 2)) hE (rmD_ok (by omega) (by decide)) rfl (Nat.le_of_ble_eq_true rfl) rfl d_T_stands_19 (x_rI (fun x u1 h9 => ?_))
    obtain ⟨rfl, rfl⟩ := h9
    refine x_icmp_ge (tgt := 49) d_T_stands_22 rfl (fun hc => ?_) (fun hc => ?_)
    · have h := h.1 hc
      refine x_iconst (v := 1) d_T_stands_49 (by decide) ?_
      refine x_zret rfl d_T_stands_50 ⟨_, rfl, ?_⟩
      exact h
    · have h := h.2 hc
      refine x_aload_n (x := o) d_T_stands_25 rfl ?_
      refine x_get (v := .ref (a 0)) f_T_9 (eS_o _ _ _ _) rfl d_T_stands_26 ?_
      refine x_iload_n (x := x1) d_T_stands_29 rfl ?_
      refine x_iload_n (x := x3) d_T_stands_30 rfl ?_
      refine x_iadd d_T_stands_31 ?_
      refine x_cald (t0 := 1) (eS_0 _ _ _ _) rfl h.1 d_T_stands_32 ?_
      have h := h.2
      refine x_aload_n (x := (adK i)) d_T_stands_33 rfl ?_
      refine x_iload_n (x := x3) d_T_stands_34 rfl ?_
      refine x_callVO (st := [.int (gA u 0 (x1 + x3).toNatClampNeg)]) k_T_47 (fun A s h9 => ((X A s h9).2.1 i hi).2.1) x_none (cf_JS_charAt l D cs Ev hE adK adV fm X i hi (d + 0) x3 h.1) hE (rmD_ok (by omega) (by decide)) rfl (Nat.le_of_ble_eq_true rfl) rfl d_T_stands_35 (x_rI (fun x u1 h9 => ?_))
      obtain ⟨rfl, rfl⟩ := h9
      have h := h.2
      refine x_icmp_eq (tgt := 43) d_T_stands_38 rfl (fun hc => ?_) (fun hc => ?_)
      · have h := h.1 hc
        refine x_iinc (v := x3 + 1) (lv' := [(3, .int (x3 + 1)), (0, .ref o), (1, .int x1), (2, .ref (adK i))]) d_T_stands_43 rfl rfl (by decide) rfl ?_
        refine x_goto (tgt := 17) d_T_stands_46 rfl ?_
        refine x_sub [1, 2, 3, 0] rfl ?_
        exact ih x1 (x3 + 1) u h
      · have h := h.2 hc
        refine x_iconst (v := 0) d_T_stands_41 (by decide) ?_
        refine x_zret rfl d_T_stands_42 ⟨_, rfl, ?_⟩
        exact h
def P_T_stands (post : Int32 → MS → Prop) (i : Nat) (a0 : Int32) (u : MS) : Prop := (((a0 + (nI (lenS i))) ≤ (gI u 4) → (∃ g, P_T_stands_17 post i g a0 0 u)) ∧ (¬ (a0 + (nI (lenS i))) ≤ (gI u 4) → post 0 u))
set_option maxHeartbeats 600000 in
set_option maxRecDepth 100000 in
theorem c_T_stands (l : Launch) (D : va_G) (cs : Nat → ClassId) (Ev : (Nat → Prop) → State → Prop) (hE : xEok Ev) (adK adV : Nat → Nat) (fm : Option Nat) (X : xEv adK adV fm Ev) (o : Nat) (a : Nat → Nat) (i : Nat) (hi : i < 56) (d : Nat) (post : Int32 → MS → Prop) (a0 : Int32) (u : MS) (h : P_T_stands post i a0 u) : xC l D clX (tysX cs) Ev y_T_stands w_T_stands (rmD (d + 4)) (wdS o a cs) [.ref o, .int a0, .ref (adK i)] u (pI post) 0 0 := by
  unfold P_T_stands at h
  refine xC.of (cc := b_T_stands) (nL := 4) (ret := (some .boolean)) (by decide) rfl (Nat.le_of_ble_eq_true rfl) ?_
  show RR l D clX (tysX cs) Ev "DeckFront$Tape" b_T_stands 4 w_T_stands (rmD (d + 4)) (some .boolean) (wdS o a cs) (pI post) 0 0 0 0 0 [(0, .ref o), (1, .int a0), (2, .ref (adK i))] [] u
  refine x_iload_n (x := a0) d_T_stands_0 rfl ?_
  refine x_aload_n (x := (adK i)) d_T_stands_1 rfl ?_
  refine x_callVO (st := [.int a0]) k_T_42 (fun A s h9 => ((X A s h9).2.1 i hi).2.1) x_none (cf_JS_length l D cs Ev hE adK adV fm X i hi (d + 2)) hE (rmD_ok (by omega) (by decide)) rfl (Nat.le_of_ble_eq_true rfl) rfl d_T_stands_2 (x_rI (fun x u1 h9 => ?_))
  obtain ⟨rfl, rfl⟩ := h9
  refine x_iadd d_T_stands_5 ?_
  refine x_aload_n (x := o) d_T_stands_6 rfl ?_
  refine x_get (v := .int (gI u 4)) f_T_25 (eS_o _ _ _ _) rfl d_T_stands_7 ?_
  refine x_icmp_le (tgt := 15) d_T_stands_10 rfl (fun hc => ?_) (fun hc => ?_)
  · have h := h.1 hc
    refine x_iconst (v := 0) d_T_stands_15 (by decide) ?_
    refine x_istore_n (lv' := [(3, .int 0), (0, .ref o), (1, .int a0), (2, .ref (adK i))]) d_T_stands_16 (by decide) rfl ?_
    refine x_sub [1, 2, 3, 0] rfl ?_
    obtain ⟨f9, h⟩ := h
    exact w_T_stands_17 l D cs Ev hE adK adV fm X o a i hi d post  f9 a0 0 u h
  · have h := h.2 hc
    refine x_iconst (v := 0) d_T_stands_13 (by decide) ?_
    refine x_zret rfl d_T_stands_14 ⟨_, rfl, ?_⟩
    exact h
def P_T_take (post : Int32 → MS → Prop) (i : Nat) (u : MS) : Prop := P_T_stands (fun r2 u1 => ((¬ r2 = 0 → post 1 (sI u1 5 ((gI u1 5) + (nI (lenS i))))) ∧ (r2 = 0 → post 0 u1))) i (gI u 5) u
set_option maxHeartbeats 600000 in
set_option maxRecDepth 100000 in
theorem c_T_take (l : Launch) (D : va_G) (cs : Nat → ClassId) (Ev : (Nat → Prop) → State → Prop) (hE : xEok Ev) (adK adV : Nat → Nat) (fm : Option Nat) (X : xEv adK adV fm Ev) (o : Nat) (a : Nat → Nat) (i : Nat) (hi : i < 56) (d : Nat) (post : Int32 → MS → Prop) (u : MS) (h : P_T_take post i  u) : xC l D clX (tysX cs) Ev y_T_take w_T_take (rmD (d + 5)) (wdS o a cs) [.ref o, .ref (adK i)] u (pI post) 0 0 := by
  unfold P_T_take at h
  refine xC.of (cc := b_T_take) (nL := 2) (ret := (some .boolean)) (by decide) rfl (Nat.le_of_ble_eq_true rfl) ?_
  show RR l D clX (tysX cs) Ev "DeckFront$Tape" b_T_take 2 w_T_take (rmD (d + 5)) (some .boolean) (wdS o a cs) (pI post) 0 0 0 0 0 [(0, .ref o), (1, .ref (adK i))] [] u
  refine x_aload_n (x := o) d_T_take_0 rfl ?_
  refine x_aload_n (x := o) d_T_take_1 rfl ?_
  refine x_get (v := .int (gI u 5)) f_T_29 (eS_o _ _ _ _) rfl d_T_take_2 ?_
  refine x_aload_n (x := (adK i)) d_T_take_5 rfl ?_
  refine x_callV (st := []) k_T_51 rfl (eS_o _ _ _ _) x_id (c_T_stands l D cs Ev hE adK adV fm X o a i hi (d + 0) _ (gI u 5) u h) hE (rmD_ok (by omega) (by decide)) rfl (Nat.le_of_ble_eq_true rfl) rfl d_T_take_6 (x_rI (fun r2 u1 h => ?_))
  refine x_if_ne (tgt := 14) d_T_take_9 rfl (fun hc => ?_) (fun hc => ?_)
  · have h := h.1 hc
    refine x_aload_n (x := o) d_T_take_14 rfl ?_
    refine x_dup d_T_take_15 rfl ?_
    refine x_get (v := .int (gI u1 5)) f_T_29 (eS_o _ _ _ _) rfl d_T_take_16 ?_
    refine x_aload_n (x := (adK i)) d_T_take_19 rfl ?_
    refine x_callVO (st := [.int (gI u1 5), .ref o]) k_T_42 (fun A s h9 => ((X A s h9).2.1 i hi).2.1) x_none (cf_JS_length l D cs Ev hE adK adV fm X i hi (d + 3)) hE (rmD_ok (by omega) (by decide)) rfl (Nat.le_of_ble_eq_true rfl) rfl d_T_take_20 (x_rI (fun x u1 h9 => ?_))
    obtain ⟨rfl, rfl⟩ := h9
    refine x_iadd d_T_take_23 ?_
    refine x_put f_T_29 fw_S_5 (eS_o _ _ _ _) rfl rfl (Nat.le_of_ble_eq_true rfl) (sS_5 _ _ _ _ _) d_T_take_24 ?_
    refine x_iconst (v := 1) d_T_take_27 (by decide) ?_
    refine x_zret rfl d_T_take_28 ⟨_, rfl, ?_⟩
    exact h
  · have h := h.2 hc
    refine x_iconst (v := 0) d_T_take_12 (by decide) ?_
    refine x_zret rfl d_T_take_13 ⟨_, rfl, ?_⟩
    exact h
def P_T_takeIdleComma (post : Int32 → MS → Prop) (u : MS) : Prop := P_T_isNext (fun r2 u1 => ((r2 = 0 → post 1 u1) ∧ (¬ r2 = 0 → (vp_in (gI u1 5) 80 ∧ post 1 (sI (sA u1 3 (gI u1 5).toNatClampNeg (5 : Int32)) 5 ((gI u1 5) + (1 : Int32))))))) (44 : Int32) u
set_option maxHeartbeats 600000 in
set_option maxRecDepth 100000 in
theorem c_T_takeIdleComma (l : Launch) (D : va_G) (cs : Nat → ClassId) (Ev : (Nat → Prop) → State → Prop) (hE : xEok Ev) (adK adV : Nat → Nat) (fm : Option Nat) (X : xEv adK adV fm Ev) (o : Nat) (a : Nat → Nat) (d : Nat) (post : Int32 → MS → Prop) (u : MS) (h : P_T_takeIdleComma post  u) : xC l D clX (tysX cs) Ev y_T_takeIdleComma w_T_takeIdleComma (rmD (d + 1)) (wdS o a cs) [.ref o] u (pI post) 0 0 := by
  unfold P_T_takeIdleComma at h
  refine xC.of (cc := b_T_takeIdleComma) (nL := 1) (ret := (some .boolean)) (by decide) rfl (Nat.le_of_ble_eq_true rfl) ?_
  show RR l D clX (tysX cs) Ev "DeckFront$Tape" b_T_takeIdleComma 1 w_T_takeIdleComma (rmD (d + 1)) (some .boolean) (wdS o a cs) (pI post) 0 0 0 0 0 [(0, .ref o)] [] u
  refine x_aload_n (x := o) d_T_takeIdleComma_0 rfl ?_
  refine x_bipush (v := 44) d_T_takeIdleComma_1 (by decide) ?_
  refine x_callV (st := []) k_T_55 rfl (eS_o _ _ _ _) x_id (c_T_isNext l D cs Ev hE adK adV fm X o a (d + 0) _ (44 : Int32) u h) hE (rmD_ok (by omega) (by decide)) rfl (Nat.le_of_ble_eq_true rfl) rfl d_T_takeIdleComma_3 (x_rI (fun r2 u1 h => ?_))
  refine x_if_eq (tgt := 29) d_T_takeIdleComma_6 rfl (fun hc => ?_) (fun hc => ?_)
  · have h := h.1 hc
    refine x_iconst (v := 1) d_T_takeIdleComma_29 (by decide) ?_
    refine x_zret rfl d_T_takeIdleComma_30 ⟨_, rfl, ?_⟩
    exact h
  · have h := h.2 hc
    refine x_aload_n (x := o) d_T_takeIdleComma_9 rfl ?_
    refine x_get (v := .ref (a 3)) f_T_22 (eS_o _ _ _ _) rfl d_T_takeIdleComma_10 ?_
    refine x_aload_n (x := o) d_T_takeIdleComma_13 rfl ?_
    refine x_get (v := .int (gI u1 5)) f_T_29 (eS_o _ _ _ _) rfl d_T_takeIdleComma_14 ?_
    refine x_iconst (v := 5) d_T_takeIdleComma_17 (by decide) ?_
    refine x_iast (t0 := 0) (eS_3 _ _ _ _) rfl h.1 (sS_3 _ _ _ _ _ _) d_T_takeIdleComma_18 ?_
    have h := h.2
    refine x_aload_n (x := o) d_T_takeIdleComma_19 rfl ?_
    refine x_dup d_T_takeIdleComma_20 rfl ?_
    refine x_get (v := .int (gI u1 5)) f_T_29 (eS_o _ _ _ _) rfl d_T_takeIdleComma_21 ?_
    refine x_iconst (v := 1) d_T_takeIdleComma_24 (by decide) ?_
    refine x_iadd d_T_takeIdleComma_25 ?_
    refine x_put f_T_29 fw_S_5 (eS_o _ _ _ _) rfl rfl (Nat.le_of_ble_eq_true rfl) (sS_5 _ _ _ _ _) d_T_takeIdleComma_26 ?_
    refine x_iconst (v := 1) d_T_takeIdleComma_29 (by decide) ?_
    refine x_zret rfl d_T_takeIdleComma_30 ⟨_, rfl, ?_⟩
    exact h
def P_T_takeDigits_100 (post : Int32 → MS → Prop) (x2 : Int32) (x3 : Int32) (u : MS) : Prop := (vp_in x3 80 ∧ post 1 (sA u 3 x3.toNatClampNeg x2))
set_option maxHeartbeats 600000 in
set_option maxRecDepth 100000 in
theorem w_T_takeDigits_100 (l : Launch) (D : va_G) (cs : Nat → ClassId) (Ev : (Nat → Prop) → State → Prop) (hE : xEok Ev) (adK adV : Nat → Nat) (fm : Option Nat) (X : xEv adK adV fm Ev) (o : Nat) (a : Nat → Nat) (d : Nat) (post : Int32 → MS → Prop) (x2 : Int32) (x3 : Int32) (u : MS) (h : P_T_takeDigits_100 post  x2 x3 u) : RR l D clX (tysX cs) Ev "DeckFront$Tape" b_T_takeDigits 5 w_T_takeDigits (rmD (d + 1)) (some .boolean) (wdS o a cs) (pI post) 0 0 0 0 100 [(0, .ref o), (2, .int x2), (3, .int x3)] [] u := by
  unfold P_T_takeDigits_100 at h
  refine x_aload_n (x := o) d_T_takeDigits_100 rfl ?_
  refine x_get (v := .ref (a 3)) f_T_22 (eS_o _ _ _ _) rfl d_T_takeDigits_101 ?_
  refine x_iload_n (x := x3) d_T_takeDigits_104 rfl ?_
  refine x_iload_n (x := x2) d_T_takeDigits_105 rfl ?_
  refine x_iast (t0 := 0) (eS_3 _ _ _ _) rfl h.1 (sS_3 _ _ _ _ _ _) d_T_takeDigits_106 ?_
  have h := h.2
  refine x_iconst (v := 1) d_T_takeDigits_107 (by decide) ?_
  refine x_zret rfl d_T_takeDigits_108 ⟨_, rfl, ?_⟩
  exact h
def P_T_takeDigits_66 (post : Int32 → MS → Prop) : Nat → Int32 → Int32 → MS → Prop
  | 0, _, _, _ => False
  | f + 1, x2, x3, u => ((((gI u 5) - (1 : Int32)) ≤ x3 → P_T_takeDigits_100 post x2 x3 u) ∧ (¬ ((gI u 5) - (1 : Int32)) ≤ x3 → (vp_in x3 80 ∧ ((¬ (gA u 0 x3.toNatClampNeg) = 48 → P_T_takeDigits_100 post x2 x3 u) ∧ ((gA u 0 x3.toNatClampNeg) = 48 → (vp_in x3 80 ∧ P_T_takeDigits_66 post f x2 (x3 + 1) (sA u 3 x3.toNatClampNeg (5 : Int32))))))))
set_option maxHeartbeats 600000 in
set_option maxRecDepth 100000 in
theorem w_T_takeDigits_66 (l : Launch) (D : va_G) (cs : Nat → ClassId) (Ev : (Nat → Prop) → State → Prop) (hE : xEok Ev) (adK adV : Nat → Nat) (fm : Option Nat) (X : xEv adK adV fm Ev) (o : Nat) (a : Nat → Nat) (d : Nat) (post : Int32 → MS → Prop) : ∀ (f : Nat) (x2 : Int32) (x3 : Int32) (u : MS), P_T_takeDigits_66 post  f x2 x3 u → RR l D clX (tysX cs) Ev "DeckFront$Tape" b_T_takeDigits 5 w_T_takeDigits (rmD (d + 1)) (some .boolean) (wdS o a cs) (pI post) 0 0 0 0 66 [(0, .ref o), (2, .int x2), (3, .int x3)] [] u := by
  intro f
  induction f with
  | zero => intro x2 x3 u h; exact h.elim
  | succ f ih =>
    intro x2 x3 u h
    unfold P_T_takeDigits_66 at h
    refine x_iload_n (x := x3) d_T_takeDigits_66 rfl ?_
    refine x_aload_n (x := o) d_T_takeDigits_67 rfl ?_
    refine x_get (v := .int (gI u 5)) f_T_29 (eS_o _ _ _ _) rfl d_T_takeDigits_68 ?_
    refine x_iconst (v := 1) d_T_takeDigits_71 (by decide) ?_
    refine x_isub d_T_takeDigits_72 ?_
    refine x_icmp_ge (tgt := 100) d_T_takeDigits_73 rfl (fun hc => ?_) (fun hc => ?_)
    · have h := h.1 hc
      exact w_T_takeDigits_100 l D cs Ev hE adK adV fm X o a d post  x2 x3 u h
    · have h := h.2 hc
      refine x_aload_n (x := o) d_T_takeDigits_76 rfl ?_
      refine x_get (v := .ref (a 0)) f_T_9 (eS_o _ _ _ _) rfl d_T_takeDigits_77 ?_
      refine x_iload_n (x := x3) d_T_takeDigits_80 rfl ?_
      refine x_cald (t0 := 1) (eS_0 _ _ _ _) rfl h.1 d_T_takeDigits_81 ?_
      have h := h.2
      refine x_bipush (v := 48) d_T_takeDigits_82 (by decide) ?_
      refine x_icmp_ne (tgt := 100) d_T_takeDigits_84 rfl (fun hc => ?_) (fun hc => ?_)
      · have h := h.1 hc
        exact w_T_takeDigits_100 l D cs Ev hE adK adV fm X o a d post  x2 x3 u h
      · have h := h.2 hc
        refine x_aload_n (x := o) d_T_takeDigits_87 rfl ?_
        refine x_get (v := .ref (a 3)) f_T_22 (eS_o _ _ _ _) rfl d_T_takeDigits_88 ?_
        refine x_iload_n (x := x3) d_T_takeDigits_91 rfl ?_
        refine x_iconst (v := 5) d_T_takeDigits_92 (by decide) ?_
        refine x_iast (t0 := 0) (eS_3 _ _ _ _) rfl h.1 (sS_3 _ _ _ _ _ _) d_T_takeDigits_93 ?_
        have h := h.2
        refine x_iinc (v := x3 + 1) (lv' := [(3, .int (x3 + 1)), (0, .ref o), (2, .int x2)]) d_T_takeDigits_94 rfl rfl (by decide) rfl ?_
        refine x_goto (tgt := 66) d_T_takeDigits_97 rfl ?_
        refine x_sub [1, 2, 0] rfl ?_
        exact ih x2 (x3 + 1) (sA u 3 x3.toNatClampNeg (5 : Int32)) h
def P_T_takeDigits_56 (post : Int32 → MS → Prop) (x2 : Int32) (x3 : Int32) (u : MS) : Prop := ((¬ (gI u 5) = x3 → (∃ g, P_T_takeDigits_66 post g x2 x3 u)) ∧ ((gI u 5) = x3 → post 0 u))
set_option maxHeartbeats 600000 in
set_option maxRecDepth 100000 in
theorem w_T_takeDigits_56 (l : Launch) (D : va_G) (cs : Nat → ClassId) (Ev : (Nat → Prop) → State → Prop) (hE : xEok Ev) (adK adV : Nat → Nat) (fm : Option Nat) (X : xEv adK adV fm Ev) (o : Nat) (a : Nat → Nat) (d : Nat) (post : Int32 → MS → Prop) (x2 : Int32) (x3 : Int32) (u : MS) (h : P_T_takeDigits_56 post  x2 x3 u) : RR l D clX (tysX cs) Ev "DeckFront$Tape" b_T_takeDigits 5 w_T_takeDigits (rmD (d + 1)) (some .boolean) (wdS o a cs) (pI post) 0 0 0 0 56 [(0, .ref o), (2, .int x2), (3, .int x3)] [] u := by
  unfold P_T_takeDigits_56 at h
  refine x_aload_n (x := o) d_T_takeDigits_56 rfl ?_
  refine x_get (v := .int (gI u 5)) f_T_29 (eS_o _ _ _ _) rfl d_T_takeDigits_57 ?_
  refine x_iload_n (x := x3) d_T_takeDigits_60 rfl ?_
  refine x_icmp_ne (tgt := 66) d_T_takeDigits_61 rfl (fun hc => ?_) (fun hc => ?_)
  · have h := h.1 hc
    obtain ⟨f9, h⟩ := h
    exact w_T_takeDigits_66 l D cs Ev hE adK adV fm X o a d post  f9 x2 x3 u h
  · have h := h.2 hc
    refine x_iconst (v := 0) d_T_takeDigits_64 (by decide) ?_
    refine x_zret rfl d_T_takeDigits_65 ⟨_, rfl, ?_⟩
    exact h
def P_T_takeDigits_8 (post : Int32 → MS → Prop) : Nat → Int32 → Int32 → Int32 → Int32 → MS → Prop
  | 0, _, _, _, _, _ => False
  | f + 1, x1, x2, x3, x4, u => ((x1 ≤ x4 → P_T_takeDigits_56 post x2 x3 u) ∧ (¬ x1 ≤ x4 → (((gI u 4) ≤ (gI u 5) → P_T_takeDigits_56 post x2 x3 u) ∧ (¬ (gI u 4) ≤ (gI u 5) → (vp_in (gI u 5) 80 ∧ (((isDig (gA u 0 (gI u 5).toNatClampNeg)) = 0 → P_T_takeDigits_56 post x2 x3 u) ∧ (¬ (isDig (gA u 0 (gI u 5).toNatClampNeg)) = 0 → P_T_takeDigits_8 post f x1 x2 x3 (x4 + 1) (sI u 5 ((gI u 5) + (1 : Int32))))))))))
set_option maxHeartbeats 600000 in
set_option maxRecDepth 100000 in
theorem w_T_takeDigits_8 (l : Launch) (D : va_G) (cs : Nat → ClassId) (Ev : (Nat → Prop) → State → Prop) (hE : xEok Ev) (adK adV : Nat → Nat) (fm : Option Nat) (X : xEv adK adV fm Ev) (o : Nat) (a : Nat → Nat) (d : Nat) (post : Int32 → MS → Prop) : ∀ (f : Nat) (x1 : Int32) (x2 : Int32) (x3 : Int32) (x4 : Int32) (u : MS), P_T_takeDigits_8 post  f x1 x2 x3 x4 u → RR l D clX (tysX cs) Ev "DeckFront$Tape" b_T_takeDigits 5 w_T_takeDigits (rmD (d + 1)) (some .boolean) (wdS o a cs) (pI post) 0 0 0 0 8 [(0, .ref o), (1, .int x1), (2, .int x2), (3, .int x3), (4, .int x4)] [] u := by
  intro f
  induction f with
  | zero => intro x1 x2 x3 x4 u h; exact h.elim
  | succ f ih =>
    intro x1 x2 x3 x4 u h
    unfold P_T_takeDigits_8 at h
    refine x_iload (x := x4) d_T_takeDigits_8 rfl ?_
    refine x_iload_n (x := x1) d_T_takeDigits_10 rfl ?_
    refine x_icmp_ge (tgt := 56) d_T_takeDigits_11 rfl (fun hc => ?_) (fun hc => ?_)
    · have h := h.1 hc
      refine x_sub [0, 2, 3] rfl ?_
      exact w_T_takeDigits_56 l D cs Ev hE adK adV fm X o a d post  x2 x3 u h
    · have h := h.2 hc
      refine x_aload_n (x := o) d_T_takeDigits_14 rfl ?_
      refine x_get (v := .int (gI u 5)) f_T_29 (eS_o _ _ _ _) rfl d_T_takeDigits_15 ?_
      refine x_aload_n (x := o) d_T_takeDigits_18 rfl ?_
      refine x_get (v := .int (gI u 4)) f_T_25 (eS_o _ _ _ _) rfl d_T_takeDigits_19 ?_
      refine x_icmp_ge (tgt := 56) d_T_takeDigits_22 rfl (fun hc => ?_) (fun hc => ?_)
      · have h := h.1 hc
        refine x_sub [0, 2, 3] rfl ?_
        exact w_T_takeDigits_56 l D cs Ev hE adK adV fm X o a d post  x2 x3 u h
      · have h := h.2 hc
        refine x_aload_n (x := o) d_T_takeDigits_25 rfl ?_
        refine x_get (v := .ref (a 0)) f_T_9 (eS_o _ _ _ _) rfl d_T_takeDigits_26 ?_
        refine x_aload_n (x := o) d_T_takeDigits_29 rfl ?_
        refine x_get (v := .int (gI u 5)) f_T_29 (eS_o _ _ _ _) rfl d_T_takeDigits_30 ?_
        refine x_cald (t0 := 1) (eS_0 _ _ _ _) rfl h.1 d_T_takeDigits_33 ?_
        have h := h.2
        refine x_callSN (st := []) (k_T_59 X) x_none (cf_D_isDigit l D cs Ev hE adK adV fm X (d + 0) (gA u 0 (gI u 5).toNatClampNeg)) hE (rmD_ok (by omega) (by decide)) rfl (Nat.le_of_ble_eq_true rfl) rfl d_T_takeDigits_34 (x_rI (fun x u1 h9 => ?_))
        obtain ⟨rfl, rfl⟩ := h9
        refine x_if_eq (tgt := 56) d_T_takeDigits_37 rfl (fun hc => ?_) (fun hc => ?_)
        · have h := h.1 hc
          refine x_sub [0, 2, 3] rfl ?_
          exact w_T_takeDigits_56 l D cs Ev hE adK adV fm X o a d post  x2 x3 u h
        · have h := h.2 hc
          refine x_aload_n (x := o) d_T_takeDigits_40 rfl ?_
          refine x_dup d_T_takeDigits_41 rfl ?_
          refine x_get (v := .int (gI u 5)) f_T_29 (eS_o _ _ _ _) rfl d_T_takeDigits_42 ?_
          refine x_iconst (v := 1) d_T_takeDigits_45 (by decide) ?_
          refine x_iadd d_T_takeDigits_46 ?_
          refine x_put f_T_29 fw_S_5 (eS_o _ _ _ _) rfl rfl (Nat.le_of_ble_eq_true rfl) (sS_5 _ _ _ _ _) d_T_takeDigits_47 ?_
          refine x_iinc (v := x4 + 1) (lv' := [(4, .int (x4 + 1)), (0, .ref o), (1, .int x1), (2, .int x2), (3, .int x3)]) d_T_takeDigits_50 rfl rfl (by decide) rfl ?_
          refine x_goto (tgt := 8) d_T_takeDigits_53 rfl ?_
          refine x_sub [1, 2, 3, 4, 0] rfl ?_
          exact ih x1 x2 x3 (x4 + 1) (sI u 5 ((gI u 5) + (1 : Int32))) h
def P_T_takeDigits (post : Int32 → MS → Prop) (a0 : Int32) (a1 : Int32) (u : MS) : Prop := (∀ v1, v1 = (gI u 5) → (∃ g, P_T_takeDigits_8 post g a0 a1 v1 0 u))
set_option maxHeartbeats 600000 in
set_option maxRecDepth 100000 in
theorem c_T_takeDigits (l : Launch) (D : va_G) (cs : Nat → ClassId) (Ev : (Nat → Prop) → State → Prop) (hE : xEok Ev) (adK adV : Nat → Nat) (fm : Option Nat) (X : xEv adK adV fm Ev) (o : Nat) (a : Nat → Nat) (d : Nat) (post : Int32 → MS → Prop) (a0 : Int32) (a1 : Int32) (u : MS) (h : P_T_takeDigits post a0 a1 u) : xC l D clX (tysX cs) Ev y_T_takeDigits w_T_takeDigits (rmD (d + 1)) (wdS o a cs) [.ref o, .int a0, .int a1] u (pI post) 0 0 := by
  unfold P_T_takeDigits at h
  refine xC.of (cc := b_T_takeDigits) (nL := 5) (ret := (some .boolean)) (by decide) rfl (Nat.le_of_ble_eq_true rfl) ?_
  show RR l D clX (tysX cs) Ev "DeckFront$Tape" b_T_takeDigits 5 w_T_takeDigits (rmD (d + 1)) (some .boolean) (wdS o a cs) (pI post) 0 0 0 0 0 [(0, .ref o), (1, .int a0), (2, .int a1)] [] u
  refine x_aload_n (x := o) d_T_takeDigits_0 rfl ?_
  refine x_get (v := .int (gI u 5)) f_T_29 (eS_o _ _ _ _) rfl d_T_takeDigits_1 ?_
  refine x_topI (fun v1 ev1 => ?_)
  have h := h v1 ev1
  refine x_istore_n (lv' := [(3, .int v1), (0, .ref o), (1, .int a0), (2, .int a1)]) d_T_takeDigits_4 (by decide) rfl ?_
  refine x_iconst (v := 0) d_T_takeDigits_5 (by decide) ?_
  refine x_istore (lv' := [(4, .int 0), (3, .int v1), (0, .ref o), (1, .int a0), (2, .int a1)]) d_T_takeDigits_6 (by decide) rfl ?_
  refine x_sub [2, 3, 4, 1, 0] rfl ?_
  obtain ⟨f9, h⟩ := h
  exact w_T_takeDigits_8 l D cs Ev hE adK adV fm X o a d post  f9 a0 a1 v1 0 u h
def P_T_takeName_101 (post : Int32 → MS → Prop) (x1 : Int32) (x2 : Int32) (u : MS) : Prop := (vp_in x2 80 ∧ post 1 (sA u 3 x2.toNatClampNeg x1))
set_option maxHeartbeats 600000 in
set_option maxRecDepth 100000 in
theorem w_T_takeName_101 (l : Launch) (D : va_G) (cs : Nat → ClassId) (Ev : (Nat → Prop) → State → Prop) (hE : xEok Ev) (adK adV : Nat → Nat) (fm : Option Nat) (X : xEv adK adV fm Ev) (o : Nat) (a : Nat → Nat) (d : Nat) (post : Int32 → MS → Prop) (x1 : Int32) (x2 : Int32) (u : MS) (h : P_T_takeName_101 post  x1 x2 u) : RR l D clX (tysX cs) Ev "DeckFront$Tape" b_T_takeName 4 w_T_takeName (rmD (d + 1)) (some .boolean) (wdS o a cs) (pI post) 0 0 0 0 101 [(0, .ref o), (1, .int x1), (2, .int x2)] [] u := by
  unfold P_T_takeName_101 at h
  refine x_aload_n (x := o) d_T_takeName_101 rfl ?_
  refine x_get (v := .ref (a 3)) f_T_22 (eS_o _ _ _ _) rfl d_T_takeName_102 ?_
  refine x_iload_n (x := x2) d_T_takeName_105 rfl ?_
  refine x_iload_n (x := x1) d_T_takeName_106 rfl ?_
  refine x_iast (t0 := 0) (eS_3 _ _ _ _) rfl h.1 (sS_3 _ _ _ _ _ _) d_T_takeName_107 ?_
  have h := h.2
  refine x_iconst (v := 1) d_T_takeName_108 (by decide) ?_
  refine x_zret rfl d_T_takeName_109 ⟨_, rfl, ?_⟩
  exact h
def P_T_takeName_85 (post : Int32 → MS → Prop) (K35 : Int32 → Int32 → Int32 → MS → Prop) (x1 : Int32) (x2 : Int32) (x3 : Int32) (u : MS) : Prop := K35 x1 x2 (x3 + 1) (sI u 5 ((gI u 5) + (1 : Int32)))
set_option maxHeartbeats 600000 in
set_option maxRecDepth 100000 in
theorem w_T_takeName_85 (l : Launch) (D : va_G) (cs : Nat → ClassId) (Ev : (Nat → Prop) → State → Prop) (hE : xEok Ev) (adK adV : Nat → Nat) (fm : Option Nat) (X : xEv adK adV fm Ev) (o : Nat) (a : Nat → Nat) (d : Nat) (post : Int32 → MS → Prop) (K35 : Int32 → Int32 → Int32 → MS → Prop) (hK35 : ∀ (x1 : Int32) (x2 : Int32) (x3 : Int32) (u : MS), K35 x1 x2 x3 u → RR l D clX (tysX cs) Ev "DeckFront$Tape" b_T_takeName 4 w_T_takeName (rmD (d + 1)) (some .boolean) (wdS o a cs) (pI post) 0 0 0 0 35 [(0, .ref o), (1, .int x1), (2, .int x2), (3, .int x3)] [] u) (x1 : Int32) (x2 : Int32) (x3 : Int32) (u : MS) (h : P_T_takeName_85 post K35 x1 x2 x3 u) : RR l D clX (tysX cs) Ev "DeckFront$Tape" b_T_takeName 4 w_T_takeName (rmD (d + 1)) (some .boolean) (wdS o a cs) (pI post) 0 0 0 0 85 [(0, .ref o), (1, .int x1), (2, .int x2), (3, .int x3)] [] u := by
  unfold P_T_takeName_85 at h
  refine x_aload_n (x := o) d_T_takeName_85 rfl ?_
  refine x_dup d_T_takeName_86 rfl ?_
  refine x_get (v := .int (gI u 5)) f_T_29 (eS_o _ _ _ _) rfl d_T_takeName_87 ?_
  refine x_iconst (v := 1) d_T_takeName_90 (by decide) ?_
  refine x_iadd d_T_takeName_91 ?_
  refine x_put f_T_29 fw_S_5 (eS_o _ _ _ _) rfl rfl (Nat.le_of_ble_eq_true rfl) (sS_5 _ _ _ _ _) d_T_takeName_92 ?_
  refine x_iinc (v := x3 + 1) (lv' := [(3, .int (x3 + 1)), (0, .ref o), (1, .int x1), (2, .int x2)]) d_T_takeName_95 rfl rfl (by decide) rfl ?_
  refine x_goto (tgt := 35) d_T_takeName_98 rfl ?_
  refine x_sub [1, 2, 3, 0] rfl ?_
  exact hK35 x1 x2 (x3 + 1) (sI u 5 ((gI u 5) + (1 : Int32))) h
def P_T_takeName_35 (post : Int32 → MS → Prop) : Nat → Int32 → Int32 → Int32 → MS → Prop
  | 0, _, _, _, _ => False
  | f + 1, x1, x2, x3, u => ((6 ≤ x3 → P_T_takeName_101 post x1 x2 u) ∧ (¬ 6 ≤ x3 → (((gI u 4) ≤ (gI u 5) → P_T_takeName_101 post x1 x2 u) ∧ (¬ (gI u 4) ≤ (gI u 5) → (vp_in (gI u 5) 80 ∧ ((¬ (isLet (gA u 0 (gI u 5).toNatClampNeg)) = 0 → P_T_takeName_85 post (fun zx1 zx2 zx3 zu => P_T_takeName_35 post f zx1 zx2 zx3 zu) x1 x2 x3 u) ∧ ((isLet (gA u 0 (gI u 5).toNatClampNeg)) = 0 → (vp_in (gI u 5) 80 ∧ ((¬ (isDig (gA u 0 (gI u 5).toNatClampNeg)) = 0 → P_T_takeName_85 post (fun zx1 zx2 zx3 zu => P_T_takeName_35 post f zx1 zx2 zx3 zu) x1 x2 x3 u) ∧ ((isDig (gA u 0 (gI u 5).toNatClampNeg)) = 0 → P_T_takeName_101 post x1 x2 u))))))))))
set_option maxHeartbeats 600000 in
set_option maxRecDepth 100000 in
theorem w_T_takeName_35 (l : Launch) (D : va_G) (cs : Nat → ClassId) (Ev : (Nat → Prop) → State → Prop) (hE : xEok Ev) (adK adV : Nat → Nat) (fm : Option Nat) (X : xEv adK adV fm Ev) (o : Nat) (a : Nat → Nat) (d : Nat) (post : Int32 → MS → Prop) : ∀ (f : Nat) (x1 : Int32) (x2 : Int32) (x3 : Int32) (u : MS), P_T_takeName_35 post  f x1 x2 x3 u → RR l D clX (tysX cs) Ev "DeckFront$Tape" b_T_takeName 4 w_T_takeName (rmD (d + 1)) (some .boolean) (wdS o a cs) (pI post) 0 0 0 0 35 [(0, .ref o), (1, .int x1), (2, .int x2), (3, .int x3)] [] u := by
  intro f
  induction f with
  | zero => intro x1 x2 x3 u h; exact h.elim
  | succ f ih =>
    intro x1 x2 x3 u h
    unfold P_T_takeName_35 at h
    refine x_iload_n (x := x3) d_T_takeName_35 rfl ?_
    refine x_bipush (v := 6) d_T_takeName_36 (by decide) ?_
    refine x_icmp_ge (tgt := 101) d_T_takeName_38 rfl (fun hc => ?_) (fun hc => ?_)
    · have h := h.1 hc
      refine x_sub [0, 1, 2] rfl ?_
      exact w_T_takeName_101 l D cs Ev hE adK adV fm X o a d post  x1 x2 u h
    · have h := h.2 hc
      refine x_aload_n (x := o) d_T_takeName_41 rfl ?_
      refine x_get (v := .int (gI u 5)) f_T_29 (eS_o _ _ _ _) rfl d_T_takeName_42 ?_
      refine x_aload_n (x := o) d_T_takeName_45 rfl ?_
      refine x_get (v := .int (gI u 4)) f_T_25 (eS_o _ _ _ _) rfl d_T_takeName_46 ?_
      refine x_icmp_ge (tgt := 101) d_T_takeName_49 rfl (fun hc => ?_) (fun hc => ?_)
      · have h := h.1 hc
        refine x_sub [0, 1, 2] rfl ?_
        exact w_T_takeName_101 l D cs Ev hE adK adV fm X o a d post  x1 x2 u h
      · have h := h.2 hc
        refine x_aload_n (x := o) d_T_takeName_52 rfl ?_
        refine x_get (v := .ref (a 0)) f_T_9 (eS_o _ _ _ _) rfl d_T_takeName_53 ?_
        refine x_aload_n (x := o) d_T_takeName_56 rfl ?_
        refine x_get (v := .int (gI u 5)) f_T_29 (eS_o _ _ _ _) rfl d_T_takeName_57 ?_
        refine x_cald (t0 := 1) (eS_0 _ _ _ _) rfl h.1 d_T_takeName_60 ?_
        have h := h.2
        refine x_callSN (st := []) (k_T_63 X) x_none (cf_D_isLetter l D cs Ev hE adK adV fm X (d + 0) (gA u 0 (gI u 5).toNatClampNeg)) hE (rmD_ok (by omega) (by decide)) rfl (Nat.le_of_ble_eq_true rfl) rfl d_T_takeName_61 (x_rI (fun x u1 h9 => ?_))
        obtain ⟨rfl, rfl⟩ := h9
        refine x_if_ne (tgt := 85) d_T_takeName_64 rfl (fun hc => ?_) (fun hc => ?_)
        · have h := h.1 hc
          exact w_T_takeName_85 l D cs Ev hE adK adV fm X o a d post (fun zx1 zx2 zx3 zu => P_T_takeName_35 post f zx1 zx2 zx3 zu) ih x1 x2 x3 u h
        · have h := h.2 hc
          refine x_aload_n (x := o) d_T_takeName_67 rfl ?_
          refine x_get (v := .ref (a 0)) f_T_9 (eS_o _ _ _ _) rfl d_T_takeName_68 ?_
          refine x_aload_n (x := o) d_T_takeName_71 rfl ?_
          refine x_get (v := .int (gI u 5)) f_T_29 (eS_o _ _ _ _) rfl d_T_takeName_72 ?_
          refine x_cald (t0 := 1) (eS_0 _ _ _ _) rfl h.1 d_T_takeName_75 ?_
          have h := h.2
          refine x_callSN (st := []) (k_T_59 X) x_none (cf_D_isDigit l D cs Ev hE adK adV fm X (d + 0) (gA u 0 (gI u 5).toNatClampNeg)) hE (rmD_ok (by omega) (by decide)) rfl (Nat.le_of_ble_eq_true rfl) rfl d_T_takeName_76 (x_rI (fun x u1 h9 => ?_))
          obtain ⟨rfl, rfl⟩ := h9
          refine x_if_ne (tgt := 85) d_T_takeName_79 rfl (fun hc => ?_) (fun hc => ?_)
          · have h := h.1 hc
            exact w_T_takeName_85 l D cs Ev hE adK adV fm X o a d post (fun zx1 zx2 zx3 zu => P_T_takeName_35 post f zx1 zx2 zx3 zu) ih x1 x2 x3 u h
          · have h := h.2 hc
            refine x_goto (tgt := 101) d_T_takeName_82 rfl ?_
            refine x_sub [0, 1, 2] rfl ?_
            exact w_T_takeName_101 l D cs Ev hE adK adV fm X o a d post  x1 x2 u h
def P_T_takeName (post : Int32 → MS → Prop) (a0 : Int32) (u : MS) : Prop := (∀ v1, v1 = (gI u 5) → (((gI u 4) ≤ (gI u 5) → post 0 u) ∧ (¬ (gI u 4) ≤ (gI u 5) → (vp_in (gI u 5) 80 ∧ ((¬ (isLet (gA u 0 (gI u 5).toNatClampNeg)) = 0 → (∃ g, P_T_takeName_35 post g a0 v1 0 u)) ∧ ((isLet (gA u 0 (gI u 5).toNatClampNeg)) = 0 → post 0 u))))))
set_option maxHeartbeats 600000 in
set_option maxRecDepth 100000 in
theorem c_T_takeName (l : Launch) (D : va_G) (cs : Nat → ClassId) (Ev : (Nat → Prop) → State → Prop) (hE : xEok Ev) (adK adV : Nat → Nat) (fm : Option Nat) (X : xEv adK adV fm Ev) (o : Nat) (a : Nat → Nat) (d : Nat) (post : Int32 → MS → Prop) (a0 : Int32) (u : MS) (h : P_T_takeName post a0 u) : xC l D clX (tysX cs) Ev y_T_takeName w_T_takeName (rmD (d + 1)) (wdS o a cs) [.ref o, .int a0] u (pI post) 0 0 := by
  unfold P_T_takeName at h
  refine xC.of (cc := b_T_takeName) (nL := 4) (ret := (some .boolean)) (by decide) rfl (Nat.le_of_ble_eq_true rfl) ?_
  show RR l D clX (tysX cs) Ev "DeckFront$Tape" b_T_takeName 4 w_T_takeName (rmD (d + 1)) (some .boolean) (wdS o a cs) (pI post) 0 0 0 0 0 [(0, .ref o), (1, .int a0)] [] u
  refine x_aload_n (x := o) d_T_takeName_0 rfl ?_
  refine x_get (v := .int (gI u 5)) f_T_29 (eS_o _ _ _ _) rfl d_T_takeName_1 ?_
  refine x_topI (fun v1 ev1 => ?_)
  have h := h v1 ev1
  refine x_istore_n (lv' := [(2, .int v1), (0, .ref o), (1, .int a0)]) d_T_takeName_4 (by decide) rfl ?_
  refine x_aload_n (x := o) d_T_takeName_5 rfl ?_
  refine x_get (v := .int (gI u 5)) f_T_29 (eS_o _ _ _ _) rfl d_T_takeName_6 ?_
  refine x_aload_n (x := o) d_T_takeName_9 rfl ?_
  refine x_get (v := .int (gI u 4)) f_T_25 (eS_o _ _ _ _) rfl d_T_takeName_10 ?_
  refine x_icmp_ge (tgt := 31) d_T_takeName_13 rfl (fun hc => ?_) (fun hc => ?_)
  · have h := h.1 hc
    refine x_iconst (v := 0) d_T_takeName_31 (by decide) ?_
    refine x_zret rfl d_T_takeName_32 ⟨_, rfl, ?_⟩
    exact h
  · have h := h.2 hc
    refine x_aload_n (x := o) d_T_takeName_16 rfl ?_
    refine x_get (v := .ref (a 0)) f_T_9 (eS_o _ _ _ _) rfl d_T_takeName_17 ?_
    refine x_aload_n (x := o) d_T_takeName_20 rfl ?_
    refine x_get (v := .int (gI u 5)) f_T_29 (eS_o _ _ _ _) rfl d_T_takeName_21 ?_
    refine x_cald (t0 := 1) (eS_0 _ _ _ _) rfl h.1 d_T_takeName_24 ?_
    have h := h.2
    refine x_callSN (st := []) (k_T_63 X) x_none (cf_D_isLetter l D cs Ev hE adK adV fm X (d + 0) (gA u 0 (gI u 5).toNatClampNeg)) hE (rmD_ok (by omega) (by decide)) rfl (Nat.le_of_ble_eq_true rfl) rfl d_T_takeName_25 (x_rI (fun x u1 h9 => ?_))
    obtain ⟨rfl, rfl⟩ := h9
    refine x_if_ne (tgt := 33) d_T_takeName_28 rfl (fun hc => ?_) (fun hc => ?_)
    · have h := h.1 hc
      refine x_iconst (v := 0) d_T_takeName_33 (by decide) ?_
      refine x_istore_n (lv' := [(3, .int 0), (2, .int v1), (0, .ref o), (1, .int a0)]) d_T_takeName_34 (by decide) rfl ?_
      refine x_sub [2, 3, 1, 0] rfl ?_
      obtain ⟨f9, h⟩ := h
      exact w_T_takeName_35 l D cs Ev hE adK adV fm X o a d post  f9 a0 v1 0 u h
    · have h := h.2 hc
      refine x_iconst (v := 0) d_T_takeName_31 (by decide) ?_
      refine x_zret rfl d_T_takeName_32 ⟨_, rfl, ?_⟩
      exact h
def P_T_takeQuote_18 (post : Int32 → MS → Prop) : Nat → Int32 → MS → Prop
  | 0, _, _ => False
  | f + 1, x1, u => (((gI u 4) ≤ x1 → post 0 u) ∧ (¬ (gI u 4) ≤ x1 → (vp_in x1 80 ∧ ((¬ (gA u 0 x1.toNatClampNeg) = 39 → P_T_takeQuote_18 post f (x1 + 1) u) ∧ ((gA u 0 x1.toNatClampNeg) = 39 → post 1 (sI u 5 (x1 + (1 : Int32))))))))
set_option maxHeartbeats 600000 in
set_option maxRecDepth 100000 in
theorem w_T_takeQuote_18 (l : Launch) (D : va_G) (cs : Nat → ClassId) (Ev : (Nat → Prop) → State → Prop) (hE : xEok Ev) (adK adV : Nat → Nat) (fm : Option Nat) (X : xEv adK adV fm Ev) (o : Nat) (a : Nat → Nat) (d : Nat) (post : Int32 → MS → Prop) : ∀ (f : Nat) (x1 : Int32) (u : MS), P_T_takeQuote_18 post  f x1 u → RR l D clX (tysX cs) Ev "DeckFront$Tape" b_T_takeQuote 2 w_T_takeQuote (rmD (d + 1)) (some .boolean) (wdS o a cs) (pI post) 0 0 0 0 18 [(0, .ref o), (1, .int x1)] [] u := by
  intro f
  induction f with
  | zero => intro x1 u h; exact h.elim
  | succ f ih =>
    intro x1 u h
    unfold P_T_takeQuote_18 at h
    refine x_iload_n (x := x1) d_T_takeQuote_18 rfl ?_
    refine x_aload_n (x := o) d_T_takeQuote_19 rfl ?_
    refine x_get (v := .int (gI u 4)) f_T_25 (eS_o _ _ _ _) rfl d_T_takeQuote_20 ?_
    refine x_icmp_ge (tgt := 52) d_T_takeQuote_23 rfl (fun hc => ?_) (fun hc => ?_)
    · have h := h.1 hc
      refine x_iconst (v := 0) d_T_takeQuote_52 (by decide) ?_
      refine x_zret rfl d_T_takeQuote_53 ⟨_, rfl, ?_⟩
      exact h
    · have h := h.2 hc
      refine x_aload_n (x := o) d_T_takeQuote_26 rfl ?_
      refine x_get (v := .ref (a 0)) f_T_9 (eS_o _ _ _ _) rfl d_T_takeQuote_27 ?_
      refine x_iload_n (x := x1) d_T_takeQuote_30 rfl ?_
      refine x_cald (t0 := 1) (eS_0 _ _ _ _) rfl h.1 d_T_takeQuote_31 ?_
      have h := h.2
      refine x_bipush (v := 39) d_T_takeQuote_32 (by decide) ?_
      refine x_icmp_ne (tgt := 46) d_T_takeQuote_34 rfl (fun hc => ?_) (fun hc => ?_)
      · have h := h.1 hc
        refine x_iinc (v := x1 + 1) (lv' := [(1, .int (x1 + 1)), (0, .ref o)]) d_T_takeQuote_46 rfl rfl (by decide) rfl ?_
        refine x_goto (tgt := 18) d_T_takeQuote_49 rfl ?_
        refine x_sub [1, 0] rfl ?_
        exact ih (x1 + 1) u h
      · have h := h.2 hc
        refine x_aload_n (x := o) d_T_takeQuote_37 rfl ?_
        refine x_iload_n (x := x1) d_T_takeQuote_38 rfl ?_
        refine x_iconst (v := 1) d_T_takeQuote_39 (by decide) ?_
        refine x_iadd d_T_takeQuote_40 ?_
        refine x_put f_T_29 fw_S_5 (eS_o _ _ _ _) rfl rfl (Nat.le_of_ble_eq_true rfl) (sS_5 _ _ _ _ _) d_T_takeQuote_41 ?_
        refine x_iconst (v := 1) d_T_takeQuote_44 (by decide) ?_
        refine x_zret rfl d_T_takeQuote_45 ⟨_, rfl, ?_⟩
        exact h
def P_T_takeQuote (post : Int32 → MS → Prop) (u : MS) : Prop := P_T_isNext (fun r2 u1 => ((¬ r2 = 0 → (∀ v3, v3 = ((gI u1 5) + (1 : Int32)) → (∃ g, P_T_takeQuote_18 post g v3 u1))) ∧ (r2 = 0 → post 0 u1))) (39 : Int32) u
set_option maxHeartbeats 600000 in
set_option maxRecDepth 100000 in
theorem c_T_takeQuote (l : Launch) (D : va_G) (cs : Nat → ClassId) (Ev : (Nat → Prop) → State → Prop) (hE : xEok Ev) (adK adV : Nat → Nat) (fm : Option Nat) (X : xEv adK adV fm Ev) (o : Nat) (a : Nat → Nat) (d : Nat) (post : Int32 → MS → Prop) (u : MS) (h : P_T_takeQuote post  u) : xC l D clX (tysX cs) Ev y_T_takeQuote w_T_takeQuote (rmD (d + 1)) (wdS o a cs) [.ref o] u (pI post) 0 0 := by
  unfold P_T_takeQuote at h
  refine xC.of (cc := b_T_takeQuote) (nL := 2) (ret := (some .boolean)) (by decide) rfl (Nat.le_of_ble_eq_true rfl) ?_
  show RR l D clX (tysX cs) Ev "DeckFront$Tape" b_T_takeQuote 2 w_T_takeQuote (rmD (d + 1)) (some .boolean) (wdS o a cs) (pI post) 0 0 0 0 0 [(0, .ref o)] [] u
  refine x_aload_n (x := o) d_T_takeQuote_0 rfl ?_
  refine x_bipush (v := 39) d_T_takeQuote_1 (by decide) ?_
  refine x_callV (st := []) k_T_55 rfl (eS_o _ _ _ _) x_id (c_T_isNext l D cs Ev hE adK adV fm X o a (d + 0) _ (39 : Int32) u h) hE (rmD_ok (by omega) (by decide)) rfl (Nat.le_of_ble_eq_true rfl) rfl d_T_takeQuote_3 (x_rI (fun r2 u1 h => ?_))
  refine x_if_ne (tgt := 11) d_T_takeQuote_6 rfl (fun hc => ?_) (fun hc => ?_)
  · have h := h.1 hc
    refine x_aload_n (x := o) d_T_takeQuote_11 rfl ?_
    refine x_get (v := .int (gI u1 5)) f_T_29 (eS_o _ _ _ _) rfl d_T_takeQuote_12 ?_
    refine x_iconst (v := 1) d_T_takeQuote_15 (by decide) ?_
    refine x_iadd d_T_takeQuote_16 ?_
    refine x_topI (fun v3 ev3 => ?_)
    have h := h v3 ev3
    refine x_istore_n (lv' := [(1, .int v3), (0, .ref o)]) d_T_takeQuote_17 (by decide) rfl ?_
    refine x_sub [1, 0] rfl ?_
    obtain ⟨f9, h⟩ := h
    exact w_T_takeQuote_18 l D cs Ev hE adK adV fm X o a d post  f9 v3 u1 h
  · have h := h.2 hc
    refine x_iconst (v := 0) d_T_takeQuote_9 (by decide) ?_
    refine x_zret rfl d_T_takeQuote_10 ⟨_, rfl, ?_⟩
    exact h
def P_T_digitsEnd_2 (post : Int32 → MS → Prop) : Nat → Int32 → MS → Prop
  | 0, _, _ => False
  | f + 1, x2, u => (((gI u 4) ≤ x2 → post x2 u) ∧ (¬ (gI u 4) ≤ x2 → (vp_in x2 80 ∧ (((isDig (gA u 0 x2.toNatClampNeg)) = 0 → post x2 u) ∧ (¬ (isDig (gA u 0 x2.toNatClampNeg)) = 0 → P_T_digitsEnd_2 post f (x2 + 1) u)))))
set_option maxHeartbeats 600000 in
set_option maxRecDepth 100000 in
theorem w_T_digitsEnd_2 (l : Launch) (D : va_G) (cs : Nat → ClassId) (Ev : (Nat → Prop) → State → Prop) (hE : xEok Ev) (adK adV : Nat → Nat) (fm : Option Nat) (X : xEv adK adV fm Ev) (o : Nat) (a : Nat → Nat) (d : Nat) (post : Int32 → MS → Prop) : ∀ (f : Nat) (x2 : Int32) (u : MS), P_T_digitsEnd_2 post  f x2 u → RR l D clX (tysX cs) Ev "DeckFront$Tape" b_T_digitsEnd 3 w_T_digitsEnd (rmD (d + 1)) (some .int) (wdS o a cs) (pI post) 0 0 0 0 2 [(0, .ref o), (2, .int x2)] [] u := by
  intro f
  induction f with
  | zero => intro x2 u h; exact h.elim
  | succ f ih =>
    intro x2 u h
    unfold P_T_digitsEnd_2 at h
    refine x_iload_n (x := x2) d_T_digitsEnd_2 rfl ?_
    refine x_aload_n (x := o) d_T_digitsEnd_3 rfl ?_
    refine x_get (v := .int (gI u 4)) f_T_25 (eS_o _ _ _ _) rfl d_T_digitsEnd_4 ?_
    refine x_icmp_ge (tgt := 28) d_T_digitsEnd_7 rfl (fun hc => ?_) (fun hc => ?_)
    · have h := h.1 hc
      refine x_iload_n (x := x2) d_T_digitsEnd_28 rfl ?_
      refine x_iret d_T_digitsEnd_29 ⟨_, rfl, ?_⟩
      exact h
    · have h := h.2 hc
      refine x_aload_n (x := o) d_T_digitsEnd_10 rfl ?_
      refine x_get (v := .ref (a 0)) f_T_9 (eS_o _ _ _ _) rfl d_T_digitsEnd_11 ?_
      refine x_iload_n (x := x2) d_T_digitsEnd_14 rfl ?_
      refine x_cald (t0 := 1) (eS_0 _ _ _ _) rfl h.1 d_T_digitsEnd_15 ?_
      have h := h.2
      refine x_callSN (st := []) (k_T_59 X) x_none (cf_D_isDigit l D cs Ev hE adK adV fm X (d + 0) (gA u 0 x2.toNatClampNeg)) hE (rmD_ok (by omega) (by decide)) rfl (Nat.le_of_ble_eq_true rfl) rfl d_T_digitsEnd_16 (x_rI (fun x u1 h9 => ?_))
      obtain ⟨rfl, rfl⟩ := h9
      refine x_if_eq (tgt := 28) d_T_digitsEnd_19 rfl (fun hc => ?_) (fun hc => ?_)
      · have h := h.1 hc
        refine x_iload_n (x := x2) d_T_digitsEnd_28 rfl ?_
        refine x_iret d_T_digitsEnd_29 ⟨_, rfl, ?_⟩
        exact h
      · have h := h.2 hc
        refine x_iinc (v := x2 + 1) (lv' := [(2, .int (x2 + 1)), (0, .ref o)]) d_T_digitsEnd_22 rfl rfl (by decide) rfl ?_
        refine x_goto (tgt := 2) d_T_digitsEnd_25 rfl ?_
        refine x_sub [1, 0] rfl ?_
        exact ih (x2 + 1) u h
def P_T_digitsEnd (post : Int32 → MS → Prop) (a0 : Int32) (u : MS) : Prop := (∃ g, P_T_digitsEnd_2 post g a0 u)
set_option maxHeartbeats 600000 in
set_option maxRecDepth 100000 in
theorem c_T_digitsEnd (l : Launch) (D : va_G) (cs : Nat → ClassId) (Ev : (Nat → Prop) → State → Prop) (hE : xEok Ev) (adK adV : Nat → Nat) (fm : Option Nat) (X : xEv adK adV fm Ev) (o : Nat) (a : Nat → Nat) (d : Nat) (post : Int32 → MS → Prop) (a0 : Int32) (u : MS) (h : P_T_digitsEnd post a0 u) : xC l D clX (tysX cs) Ev y_T_digitsEnd w_T_digitsEnd (rmD (d + 1)) (wdS o a cs) [.ref o, .int a0] u (pI post) 0 0 := by
  unfold P_T_digitsEnd at h
  refine xC.of (cc := b_T_digitsEnd) (nL := 3) (ret := (some .int)) (by decide) rfl (Nat.le_of_ble_eq_true rfl) ?_
  show RR l D clX (tysX cs) Ev "DeckFront$Tape" b_T_digitsEnd 3 w_T_digitsEnd (rmD (d + 1)) (some .int) (wdS o a cs) (pI post) 0 0 0 0 0 [(0, .ref o), (1, .int a0)] [] u
  refine x_iload_n (x := a0) d_T_digitsEnd_0 rfl ?_
  refine x_istore_n (lv' := [(2, .int a0), (0, .ref o), (1, .int a0)]) d_T_digitsEnd_1 (by decide) rfl ?_
  refine x_sub [1, 0] rfl ?_
  obtain ⟨f9, h⟩ := h
  exact w_T_digitsEnd_2 l D cs Ev hE adK adV fm X o a d post  f9 a0 u h
def P_T_standsLogicalWord (post : Int32 → MS → Prop) (a0 : Int32) (u : MS) : Prop := P_T_stands (fun r2 u1 => ((¬ r2 = 0 → post 1 u1) ∧ (r2 = 0 → P_T_stands (fun r4 u3 => ((¬ r4 = 0 → post 1 u3) ∧ (r4 = 0 → P_T_stands (fun r6 u5 => ((¬ r6 = 0 → post 1 u5) ∧ (r6 = 0 → P_T_stands (fun r8 u7 => ((¬ r8 = 0 → post 1 u7) ∧ (r8 = 0 → P_T_stands (fun r10 u9 => ((¬ r10 = 0 → post 1 u9) ∧ (r10 = 0 → P_T_stands (fun r12 u11 => ((¬ r12 = 0 → post 1 u11) ∧ (r12 = 0 → P_T_stands (fun r14 u13 => ((¬ r14 = 0 → post 1 u13) ∧ (r14 = 0 → P_T_stands (fun r16 u15 => ((¬ r16 = 0 → post 1 u15) ∧ (r16 = 0 → P_T_stands (fun r18 u17 => ((¬ r18 = 0 → post 1 u17) ∧ (r18 = 0 → P_T_stands (fun r20 u19 => ((¬ r20 = 0 → post 1 u19) ∧ (r20 = 0 → P_T_stands (fun r22 u21 => ((r22 = 0 → post 0 u21) ∧ (¬ r22 = 0 → post 1 u21))) 16 a0 u19))) 15 a0 u17))) 14 a0 u15))) 13 a0 u13))) 12 a0 u11))) 11 a0 u9))) 10 a0 u7))) 9 a0 u5))) 8 a0 u3))) 7 a0 u1))) 6 a0 u
set_option maxHeartbeats 600000 in
set_option maxRecDepth 100000 in
theorem c_T_standsLogicalWord (l : Launch) (D : va_G) (cs : Nat → ClassId) (Ev : (Nat → Prop) → State → Prop) (hE : xEok Ev) (adK adV : Nat → Nat) (fm : Option Nat) (X : xEv adK adV fm Ev) (o : Nat) (a : Nat → Nat) (d : Nat) (post : Int32 → MS → Prop) (a0 : Int32) (u : MS) (h : P_T_standsLogicalWord post a0 u) : xC l D clX (tysX cs) Ev y_T_standsLogicalWord w_T_standsLogicalWord (rmD (d + 5)) (wdS o a cs) [.ref o, .int a0] u (pI post) 0 0 := by
  unfold P_T_standsLogicalWord at h
  refine xC.of (cc := b_T_standsLogicalWord) (nL := 2) (ret := (some .boolean)) (by decide) rfl (Nat.le_of_ble_eq_true rfl) ?_
  show RR l D clX (tysX cs) Ev "DeckFront$Tape" b_T_standsLogicalWord 2 w_T_standsLogicalWord (rmD (d + 5)) (some .boolean) (wdS o a cs) (pI post) 0 0 0 0 0 [(0, .ref o), (1, .int a0)] [] u
  refine x_aload_n (x := o) d_T_standsLogicalWord_0 rfl ?_
  refine x_iload_n (x := a0) d_T_standsLogicalWord_1 rfl ?_
  refine x_ldcS (fun A s h9 => ((X A s h9).2.1 6 (by decide)).1) d_T_standsLogicalWord_2 ?_
  refine x_callV (st := []) k_T_51 rfl (eS_o _ _ _ _) x_id (c_T_stands l D cs Ev hE adK adV fm X o a 6 (by decide) (d + 0) _ a0 u h) hE (rmD_ok (by omega) (by decide)) rfl (Nat.le_of_ble_eq_true rfl) rfl d_T_standsLogicalWord_4 (x_rI (fun r2 u1 h => ?_))
  refine x_if_ne (tgt := 110) d_T_standsLogicalWord_7 rfl (fun hc => ?_) (fun hc => ?_)
  · have h := h.1 hc
    refine x_iconst (v := 1) d_T_standsLogicalWord_110 (by decide) ?_
    refine x_goto (tgt := 115) d_T_standsLogicalWord_111 rfl ?_
    refine x_zret rfl d_T_standsLogicalWord_115 ⟨_, rfl, ?_⟩
    exact h
  · have h := h.2 hc
    refine x_aload_n (x := o) d_T_standsLogicalWord_10 rfl ?_
    refine x_iload_n (x := a0) d_T_standsLogicalWord_11 rfl ?_
    refine x_ldcS (fun A s h9 => ((X A s h9).2.1 7 (by decide)).1) d_T_standsLogicalWord_12 ?_
    refine x_callV (st := []) k_T_51 rfl (eS_o _ _ _ _) x_id (c_T_stands l D cs Ev hE adK adV fm X o a 7 (by decide) (d + 0) _ a0 u1 h) hE (rmD_ok (by omega) (by decide)) rfl (Nat.le_of_ble_eq_true rfl) rfl d_T_standsLogicalWord_14 (x_rI (fun r4 u3 h => ?_))
    refine x_if_ne (tgt := 110) d_T_standsLogicalWord_17 rfl (fun hc => ?_) (fun hc => ?_)
    · have h := h.1 hc
      refine x_iconst (v := 1) d_T_standsLogicalWord_110 (by decide) ?_
      refine x_goto (tgt := 115) d_T_standsLogicalWord_111 rfl ?_
      refine x_zret rfl d_T_standsLogicalWord_115 ⟨_, rfl, ?_⟩
      exact h
    · have h := h.2 hc
      refine x_aload_n (x := o) d_T_standsLogicalWord_20 rfl ?_
      refine x_iload_n (x := a0) d_T_standsLogicalWord_21 rfl ?_
      refine x_ldcS (fun A s h9 => ((X A s h9).2.1 8 (by decide)).1) d_T_standsLogicalWord_22 ?_
      refine x_callV (st := []) k_T_51 rfl (eS_o _ _ _ _) x_id (c_T_stands l D cs Ev hE adK adV fm X o a 8 (by decide) (d + 0) _ a0 u3 h) hE (rmD_ok (by omega) (by decide)) rfl (Nat.le_of_ble_eq_true rfl) rfl d_T_standsLogicalWord_24 (x_rI (fun r6 u5 h => ?_))
      refine x_if_ne (tgt := 110) d_T_standsLogicalWord_27 rfl (fun hc => ?_) (fun hc => ?_)
      · have h := h.1 hc
        refine x_iconst (v := 1) d_T_standsLogicalWord_110 (by decide) ?_
        refine x_goto (tgt := 115) d_T_standsLogicalWord_111 rfl ?_
        refine x_zret rfl d_T_standsLogicalWord_115 ⟨_, rfl, ?_⟩
        exact h
      · have h := h.2 hc
        refine x_aload_n (x := o) d_T_standsLogicalWord_30 rfl ?_
        refine x_iload_n (x := a0) d_T_standsLogicalWord_31 rfl ?_
        refine x_ldcS (fun A s h9 => ((X A s h9).2.1 9 (by decide)).1) d_T_standsLogicalWord_32 ?_
        refine x_callV (st := []) k_T_51 rfl (eS_o _ _ _ _) x_id (c_T_stands l D cs Ev hE adK adV fm X o a 9 (by decide) (d + 0) _ a0 u5 h) hE (rmD_ok (by omega) (by decide)) rfl (Nat.le_of_ble_eq_true rfl) rfl d_T_standsLogicalWord_34 (x_rI (fun r8 u7 h => ?_))
        refine x_if_ne (tgt := 110) d_T_standsLogicalWord_37 rfl (fun hc => ?_) (fun hc => ?_)
        · have h := h.1 hc
          refine x_iconst (v := 1) d_T_standsLogicalWord_110 (by decide) ?_
          refine x_goto (tgt := 115) d_T_standsLogicalWord_111 rfl ?_
          refine x_zret rfl d_T_standsLogicalWord_115 ⟨_, rfl, ?_⟩
          exact h
        · have h := h.2 hc
          refine x_aload_n (x := o) d_T_standsLogicalWord_40 rfl ?_
          refine x_iload_n (x := a0) d_T_standsLogicalWord_41 rfl ?_
          refine x_ldcS (fun A s h9 => ((X A s h9).2.1 10 (by decide)).1) d_T_standsLogicalWord_42 ?_
          refine x_callV (st := []) k_T_51 rfl (eS_o _ _ _ _) x_id (c_T_stands l D cs Ev hE adK adV fm X o a 10 (by decide) (d + 0) _ a0 u7 h) hE (rmD_ok (by omega) (by decide)) rfl (Nat.le_of_ble_eq_true rfl) rfl d_T_standsLogicalWord_44 (x_rI (fun r10 u9 h => ?_))
          refine x_if_ne (tgt := 110) d_T_standsLogicalWord_47 rfl (fun hc => ?_) (fun hc => ?_)
          · have h := h.1 hc
            refine x_iconst (v := 1) d_T_standsLogicalWord_110 (by decide) ?_
            refine x_goto (tgt := 115) d_T_standsLogicalWord_111 rfl ?_
            refine x_zret rfl d_T_standsLogicalWord_115 ⟨_, rfl, ?_⟩
            exact h
          · have h := h.2 hc
            refine x_aload_n (x := o) d_T_standsLogicalWord_50 rfl ?_
            refine x_iload_n (x := a0) d_T_standsLogicalWord_51 rfl ?_
            refine x_ldcS (fun A s h9 => ((X A s h9).2.1 11 (by decide)).1) d_T_standsLogicalWord_52 ?_
            refine x_callV (st := []) k_T_51 rfl (eS_o _ _ _ _) x_id (c_T_stands l D cs Ev hE adK adV fm X o a 11 (by decide) (d + 0) _ a0 u9 h) hE (rmD_ok (by omega) (by decide)) rfl (Nat.le_of_ble_eq_true rfl) rfl d_T_standsLogicalWord_54 (x_rI (fun r12 u11 h => ?_))
            refine x_if_ne (tgt := 110) d_T_standsLogicalWord_57 rfl (fun hc => ?_) (fun hc => ?_)
            · have h := h.1 hc
              refine x_iconst (v := 1) d_T_standsLogicalWord_110 (by decide) ?_
              refine x_goto (tgt := 115) d_T_standsLogicalWord_111 rfl ?_
              refine x_zret rfl d_T_standsLogicalWord_115 ⟨_, rfl, ?_⟩
              exact h
            · have h := h.2 hc
              refine x_aload_n (x := o) d_T_standsLogicalWord_60 rfl ?_
              refine x_iload_n (x := a0) d_T_standsLogicalWord_61 rfl ?_
              refine x_ldcS (fun A s h9 => ((X A s h9).2.1 12 (by decide)).1) d_T_standsLogicalWord_62 ?_
              refine x_callV (st := []) k_T_51 rfl (eS_o _ _ _ _) x_id (c_T_stands l D cs Ev hE adK adV fm X o a 12 (by decide) (d + 0) _ a0 u11 h) hE (rmD_ok (by omega) (by decide)) rfl (Nat.le_of_ble_eq_true rfl) rfl d_T_standsLogicalWord_64 (x_rI (fun r14 u13 h => ?_))
              refine x_if_ne (tgt := 110) d_T_standsLogicalWord_67 rfl (fun hc => ?_) (fun hc => ?_)
              · have h := h.1 hc
                refine x_iconst (v := 1) d_T_standsLogicalWord_110 (by decide) ?_
                refine x_goto (tgt := 115) d_T_standsLogicalWord_111 rfl ?_
                refine x_zret rfl d_T_standsLogicalWord_115 ⟨_, rfl, ?_⟩
                exact h
              · have h := h.2 hc
                refine x_aload_n (x := o) d_T_standsLogicalWord_70 rfl ?_
                refine x_iload_n (x := a0) d_T_standsLogicalWord_71 rfl ?_
                refine x_ldcS (fun A s h9 => ((X A s h9).2.1 13 (by decide)).1) d_T_standsLogicalWord_72 ?_
                refine x_callV (st := []) k_T_51 rfl (eS_o _ _ _ _) x_id (c_T_stands l D cs Ev hE adK adV fm X o a 13 (by decide) (d + 0) _ a0 u13 h) hE (rmD_ok (by omega) (by decide)) rfl (Nat.le_of_ble_eq_true rfl) rfl d_T_standsLogicalWord_74 (x_rI (fun r16 u15 h => ?_))
                refine x_if_ne (tgt := 110) d_T_standsLogicalWord_77 rfl (fun hc => ?_) (fun hc => ?_)
                · have h := h.1 hc
                  refine x_iconst (v := 1) d_T_standsLogicalWord_110 (by decide) ?_
                  refine x_goto (tgt := 115) d_T_standsLogicalWord_111 rfl ?_
                  refine x_zret rfl d_T_standsLogicalWord_115 ⟨_, rfl, ?_⟩
                  exact h
                · have h := h.2 hc
                  refine x_aload_n (x := o) d_T_standsLogicalWord_80 rfl ?_
                  refine x_iload_n (x := a0) d_T_standsLogicalWord_81 rfl ?_
                  refine x_ldcS (fun A s h9 => ((X A s h9).2.1 14 (by decide)).1) d_T_standsLogicalWord_82 ?_
                  refine x_callV (st := []) k_T_51 rfl (eS_o _ _ _ _) x_id (c_T_stands l D cs Ev hE adK adV fm X o a 14 (by decide) (d + 0) _ a0 u15 h) hE (rmD_ok (by omega) (by decide)) rfl (Nat.le_of_ble_eq_true rfl) rfl d_T_standsLogicalWord_84 (x_rI (fun r18 u17 h => ?_))
                  refine x_if_ne (tgt := 110) d_T_standsLogicalWord_87 rfl (fun hc => ?_) (fun hc => ?_)
                  · have h := h.1 hc
                    refine x_iconst (v := 1) d_T_standsLogicalWord_110 (by decide) ?_
                    refine x_goto (tgt := 115) d_T_standsLogicalWord_111 rfl ?_
                    refine x_zret rfl d_T_standsLogicalWord_115 ⟨_, rfl, ?_⟩
                    exact h
                  · have h := h.2 hc
                    refine x_aload_n (x := o) d_T_standsLogicalWord_90 rfl ?_
                    refine x_iload_n (x := a0) d_T_standsLogicalWord_91 rfl ?_
                    refine x_ldcS (fun A s h9 => ((X A s h9).2.1 15 (by decide)).1) d_T_standsLogicalWord_92 ?_
                    refine x_callV (st := []) k_T_51 rfl (eS_o _ _ _ _) x_id (c_T_stands l D cs Ev hE adK adV fm X o a 15 (by decide) (d + 0) _ a0 u17 h) hE (rmD_ok (by omega) (by decide)) rfl (Nat.le_of_ble_eq_true rfl) rfl d_T_standsLogicalWord_94 (x_rI (fun r20 u19 h => ?_))
                    refine x_if_ne (tgt := 110) d_T_standsLogicalWord_97 rfl (fun hc => ?_) (fun hc => ?_)
                    · have h := h.1 hc
                      refine x_iconst (v := 1) d_T_standsLogicalWord_110 (by decide) ?_
                      refine x_goto (tgt := 115) d_T_standsLogicalWord_111 rfl ?_
                      refine x_zret rfl d_T_standsLogicalWord_115 ⟨_, rfl, ?_⟩
                      exact h
                    · have h := h.2 hc
                      refine x_aload_n (x := o) d_T_standsLogicalWord_100 rfl ?_
                      refine x_iload_n (x := a0) d_T_standsLogicalWord_101 rfl ?_
                      refine x_ldcS (fun A s h9 => ((X A s h9).2.1 16 (by decide)).1) d_T_standsLogicalWord_102 ?_
                      refine x_callV (st := []) k_T_51 rfl (eS_o _ _ _ _) x_id (c_T_stands l D cs Ev hE adK adV fm X o a 16 (by decide) (d + 0) _ a0 u19 h) hE (rmD_ok (by omega) (by decide)) rfl (Nat.le_of_ble_eq_true rfl) rfl d_T_standsLogicalWord_104 (x_rI (fun r22 u21 h => ?_))
                      refine x_if_eq (tgt := 114) d_T_standsLogicalWord_107 rfl (fun hc => ?_) (fun hc => ?_)
                      · have h := h.1 hc
                        refine x_iconst (v := 0) d_T_standsLogicalWord_114 (by decide) ?_
                        refine x_zret rfl d_T_standsLogicalWord_115 ⟨_, rfl, ?_⟩
                        exact h
                      · have h := h.2 hc
                        refine x_iconst (v := 1) d_T_standsLogicalWord_110 (by decide) ?_
                        refine x_goto (tgt := 115) d_T_standsLogicalWord_111 rfl ?_
                        refine x_zret rfl d_T_standsLogicalWord_115 ⟨_, rfl, ?_⟩
                        exact h
def P_T_takeDecimal_77 (post : Int32 → MS → Prop) (x1 : Int32) (s0 : Int32) (u : MS) : Prop := (narrow .boolean (.int s0) = .int s0 ∧ post s0 (sI u 5 x1))
set_option maxHeartbeats 600000 in
set_option maxRecDepth 100000 in
theorem w_T_takeDecimal_77 (l : Launch) (D : va_G) (cs : Nat → ClassId) (Ev : (Nat → Prop) → State → Prop) (hE : xEok Ev) (adK adV : Nat → Nat) (fm : Option Nat) (X : xEv adK adV fm Ev) (o : Nat) (a : Nat → Nat) (d : Nat) (post : Int32 → MS → Prop) (x1 : Int32) (s0 : Int32) (u : MS) (h : P_T_takeDecimal_77 post  x1 s0 u) : RR l D clX (tysX cs) Ev "DeckFront$Tape" b_T_takeDecimal 4 w_T_takeDecimal (rmD (d + 6)) (some .boolean) (wdS o a cs) (pI post) 0 0 0 0 77 [(0, .ref o), (1, .int x1)] [.int s0] u := by
  unfold P_T_takeDecimal_77 at h
  refine x_istore_n (lv' := [(3, .int s0), (0, .ref o), (1, .int x1)]) d_T_takeDecimal_77 (by decide) rfl ?_
  refine x_aload_n (x := o) d_T_takeDecimal_78 rfl ?_
  refine x_iload_n (x := x1) d_T_takeDecimal_79 rfl ?_
  refine x_put f_T_29 fw_S_5 (eS_o _ _ _ _) rfl rfl (Nat.le_of_ble_eq_true rfl) (sS_5 _ _ _ _ _) d_T_takeDecimal_80 ?_
  refine x_iload_n (x := s0) d_T_takeDecimal_83 rfl ?_
  refine x_zret h.1 d_T_takeDecimal_84 ⟨_, rfl, ?_⟩
  exact h.2
def P_T_takeDecimal_64 (post : Int32 → MS → Prop) (x1 : Int32) (u : MS) : Prop := ((x1 ≤ (gI u 5) → P_T_takeDecimal_77 post x1 0 u) ∧ (¬ x1 ≤ (gI u 5) → P_T_takeDecimal_77 post x1 1 u))
set_option maxHeartbeats 600000 in
set_option maxRecDepth 100000 in
theorem w_T_takeDecimal_64 (l : Launch) (D : va_G) (cs : Nat → ClassId) (Ev : (Nat → Prop) → State → Prop) (hE : xEok Ev) (adK adV : Nat → Nat) (fm : Option Nat) (X : xEv adK adV fm Ev) (o : Nat) (a : Nat → Nat) (d : Nat) (post : Int32 → MS → Prop) (x1 : Int32) (u : MS) (h : P_T_takeDecimal_64 post  x1 u) : RR l D clX (tysX cs) Ev "DeckFront$Tape" b_T_takeDecimal 4 w_T_takeDecimal (rmD (d + 6)) (some .boolean) (wdS o a cs) (pI post) 0 0 0 0 64 [(0, .ref o), (1, .int x1)] [] u := by
  unfold P_T_takeDecimal_64 at h
  refine x_iload_n (x := x1) d_T_takeDecimal_64 rfl ?_
  refine x_aload_n (x := o) d_T_takeDecimal_65 rfl ?_
  refine x_get (v := .int (gI u 5)) f_T_29 (eS_o _ _ _ _) rfl d_T_takeDecimal_66 ?_
  refine x_icmp_le (tgt := 76) d_T_takeDecimal_69 rfl (fun hc => ?_) (fun hc => ?_)
  · have h := h.1 hc
    refine x_iconst (v := 0) d_T_takeDecimal_76 (by decide) ?_
    exact w_T_takeDecimal_77 l D cs Ev hE adK adV fm X o a d post  x1 0 u h
  · have h := h.2 hc
    refine x_iconst (v := 1) d_T_takeDecimal_72 (by decide) ?_
    refine x_goto (tgt := 77) d_T_takeDecimal_73 rfl ?_
    exact w_T_takeDecimal_77 l D cs Ev hE adK adV fm X o a d post  x1 1 u h
def P_T_takeDecimal_62 (post : Int32 → MS → Prop) (x3 : Int32) (u : MS) : Prop := P_T_takeDecimal_64 post x3 u
set_option maxHeartbeats 600000 in
set_option maxRecDepth 100000 in
theorem w_T_takeDecimal_62 (l : Launch) (D : va_G) (cs : Nat → ClassId) (Ev : (Nat → Prop) → State → Prop) (hE : xEok Ev) (adK adV : Nat → Nat) (fm : Option Nat) (X : xEv adK adV fm Ev) (o : Nat) (a : Nat → Nat) (d : Nat) (post : Int32 → MS → Prop) (x3 : Int32) (u : MS) (h : P_T_takeDecimal_62 post  x3 u) : RR l D clX (tysX cs) Ev "DeckFront$Tape" b_T_takeDecimal 4 w_T_takeDecimal (rmD (d + 6)) (some .boolean) (wdS o a cs) (pI post) 0 0 0 0 62 [(0, .ref o), (3, .int x3)] [] u := by
  unfold P_T_takeDecimal_62 at h
  refine x_iload_n (x := x3) d_T_takeDecimal_62 rfl ?_
  refine x_istore_n (lv' := [(1, .int x3), (0, .ref o), (3, .int x3)]) d_T_takeDecimal_63 (by decide) rfl ?_
  refine x_sub [1, 0] rfl ?_
  exact w_T_takeDecimal_64 l D cs Ev hE adK adV fm X o a d post  x3 u h
def P_T_takeDecimal_22 (post : Int32 → MS → Prop) (x1 : Int32) (s0 : Int32) (u : MS) : Prop := P_T_stands (fun r4 u3 => ((r4 = 0 → P_T_takeDecimal_64 post x1 u3) ∧ (¬ r4 = 0 → P_T_standsLogicalWord (fun r6 u5 => ((¬ r6 = 0 → P_T_takeDecimal_64 post x1 u5) ∧ (r6 = 0 → P_T_digitsEnd (fun r8 u7 => ((¬ s0 = 0 → P_T_takeDecimal_62 post r8 u7) ∧ (s0 = 0 → ((¬ r8 = (x1 + (1 : Int32)) → P_T_takeDecimal_62 post r8 u7) ∧ (r8 = (x1 + (1 : Int32)) → post 0 u7))))) (x1 + (1 : Int32)) u5))) x1 u3))) 5 x1 u
set_option maxHeartbeats 600000 in
set_option maxRecDepth 100000 in
theorem w_T_takeDecimal_22 (l : Launch) (D : va_G) (cs : Nat → ClassId) (Ev : (Nat → Prop) → State → Prop) (hE : xEok Ev) (adK adV : Nat → Nat) (fm : Option Nat) (X : xEv adK adV fm Ev) (o : Nat) (a : Nat → Nat) (d : Nat) (post : Int32 → MS → Prop) (x1 : Int32) (s0 : Int32) (u : MS) (h : P_T_takeDecimal_22 post  x1 s0 u) : RR l D clX (tysX cs) Ev "DeckFront$Tape" b_T_takeDecimal 4 w_T_takeDecimal (rmD (d + 6)) (some .boolean) (wdS o a cs) (pI post) 0 0 0 0 22 [(0, .ref o), (1, .int x1)] [.int s0] u := by
  unfold P_T_takeDecimal_22 at h
  refine x_istore_n (lv' := [(2, .int s0), (0, .ref o), (1, .int x1)]) d_T_takeDecimal_22 (by decide) rfl ?_
  refine x_aload_n (x := o) d_T_takeDecimal_23 rfl ?_
  refine x_iload_n (x := x1) d_T_takeDecimal_24 rfl ?_
  refine x_ldcS (fun A s h9 => ((X A s h9).2.1 5 (by decide)).1) d_T_takeDecimal_25 ?_
  refine x_callV (st := []) k_T_51 rfl (eS_o _ _ _ _) x_id (c_T_stands l D cs Ev hE adK adV fm X o a 5 (by decide) (d + 1) _ x1 u h) hE (rmD_ok (by omega) (by decide)) rfl (Nat.le_of_ble_eq_true rfl) rfl d_T_takeDecimal_27 (x_rI (fun r4 u3 h => ?_))
  refine x_if_eq (tgt := 64) d_T_takeDecimal_30 rfl (fun hc => ?_) (fun hc => ?_)
  · have h := h.1 hc
    refine x_sub [1, 2] rfl ?_
    exact w_T_takeDecimal_64 l D cs Ev hE adK adV fm X o a d post  x1 u3 h
  · have h := h.2 hc
    refine x_aload_n (x := o) d_T_takeDecimal_33 rfl ?_
    refine x_iload_n (x := x1) d_T_takeDecimal_34 rfl ?_
    refine x_callV (st := []) k_T_72 rfl (eS_o _ _ _ _) x_id (c_T_standsLogicalWord l D cs Ev hE adK adV fm X o a (d + 0) _ x1 u3 h) hE (rmD_ok (by omega) (by decide)) rfl (Nat.le_of_ble_eq_true rfl) rfl d_T_takeDecimal_35 (x_rI (fun r6 u5 h => ?_))
    refine x_if_ne (tgt := 64) d_T_takeDecimal_38 rfl (fun hc => ?_) (fun hc => ?_)
    · have h := h.1 hc
      refine x_sub [1, 2] rfl ?_
      exact w_T_takeDecimal_64 l D cs Ev hE adK adV fm X o a d post  x1 u5 h
    · have h := h.2 hc
      refine x_aload_n (x := o) d_T_takeDecimal_41 rfl ?_
      refine x_iload_n (x := x1) d_T_takeDecimal_42 rfl ?_
      refine x_iconst (v := 1) d_T_takeDecimal_43 (by decide) ?_
      refine x_iadd d_T_takeDecimal_44 ?_
      refine x_callV (st := []) k_T_66 rfl (eS_o _ _ _ _) x_id (c_T_digitsEnd l D cs Ev hE adK adV fm X o a (d + 4) _ (x1 + (1 : Int32)) u5 h) hE (rmD_ok (by omega) (by decide)) rfl (Nat.le_of_ble_eq_true rfl) rfl d_T_takeDecimal_45 (x_rI (fun r8 u7 h => ?_))
      refine x_istore_n (lv' := [(3, .int r8), (2, .int s0), (0, .ref o), (1, .int x1)]) d_T_takeDecimal_48 (by decide) rfl ?_
      refine x_iload_n (x := s0) d_T_takeDecimal_49 rfl ?_
      refine x_if_ne (tgt := 62) d_T_takeDecimal_50 rfl (fun hc => ?_) (fun hc => ?_)
      · have h := h.1 hc
        refine x_sub [2, 0] rfl ?_
        exact w_T_takeDecimal_62 l D cs Ev hE adK adV fm X o a d post  r8 u7 h
      · have h := h.2 hc
        refine x_iload_n (x := r8) d_T_takeDecimal_53 rfl ?_
        refine x_iload_n (x := x1) d_T_takeDecimal_54 rfl ?_
        refine x_iconst (v := 1) d_T_takeDecimal_55 (by decide) ?_
        refine x_iadd d_T_takeDecimal_56 ?_
        refine x_icmp_ne (tgt := 62) d_T_takeDecimal_57 rfl (fun hc => ?_) (fun hc => ?_)
        · have h := h.1 hc
          refine x_sub [2, 0] rfl ?_
          exact w_T_takeDecimal_62 l D cs Ev hE adK adV fm X o a d post  r8 u7 h
        · have h := h.2 hc
          refine x_iconst (v := 0) d_T_takeDecimal_60 (by decide) ?_
          refine x_zret rfl d_T_takeDecimal_61 ⟨_, rfl, ?_⟩
          exact h
def P_T_takeDecimal (post : Int32 → MS → Prop) (u : MS) : Prop := P_T_digitsEnd (fun r2 u1 => ((r2 ≤ (gI u1 5) → P_T_takeDecimal_22 post r2 0 u1) ∧ (¬ r2 ≤ (gI u1 5) → P_T_takeDecimal_22 post r2 1 u1))) (gI u 5) u
set_option maxHeartbeats 600000 in
set_option maxRecDepth 100000 in
theorem c_T_takeDecimal (l : Launch) (D : va_G) (cs : Nat → ClassId) (Ev : (Nat → Prop) → State → Prop) (hE : xEok Ev) (adK adV : Nat → Nat) (fm : Option Nat) (X : xEv adK adV fm Ev) (o : Nat) (a : Nat → Nat) (d : Nat) (post : Int32 → MS → Prop) (u : MS) (h : P_T_takeDecimal post  u) : xC l D clX (tysX cs) Ev y_T_takeDecimal w_T_takeDecimal (rmD (d + 6)) (wdS o a cs) [.ref o] u (pI post) 0 0 := by
  unfold P_T_takeDecimal at h
  refine xC.of (cc := b_T_takeDecimal) (nL := 4) (ret := (some .boolean)) (by decide) rfl (Nat.le_of_ble_eq_true rfl) ?_
  show RR l D clX (tysX cs) Ev "DeckFront$Tape" b_T_takeDecimal 4 w_T_takeDecimal (rmD (d + 6)) (some .boolean) (wdS o a cs) (pI post) 0 0 0 0 0 [(0, .ref o)] [] u
  refine x_aload_n (x := o) d_T_takeDecimal_0 rfl ?_
  refine x_aload_n (x := o) d_T_takeDecimal_1 rfl ?_
  refine x_get (v := .int (gI u 5)) f_T_29 (eS_o _ _ _ _) rfl d_T_takeDecimal_2 ?_
  refine x_callV (st := []) k_T_66 rfl (eS_o _ _ _ _) x_id (c_T_digitsEnd l D cs Ev hE adK adV fm X o a (d + 4) _ (gI u 5) u h) hE (rmD_ok (by omega) (by decide)) rfl (Nat.le_of_ble_eq_true rfl) rfl d_T_takeDecimal_5 (x_rI (fun r2 u1 h => ?_))
  refine x_istore_n (lv' := [(1, .int r2), (0, .ref o)]) d_T_takeDecimal_8 (by decide) rfl ?_
  refine x_iload_n (x := r2) d_T_takeDecimal_9 rfl ?_
  refine x_aload_n (x := o) d_T_takeDecimal_10 rfl ?_
  refine x_get (v := .int (gI u1 5)) f_T_29 (eS_o _ _ _ _) rfl d_T_takeDecimal_11 ?_
  refine x_icmp_le (tgt := 21) d_T_takeDecimal_14 rfl (fun hc => ?_) (fun hc => ?_)
  · have h := h.1 hc
    refine x_iconst (v := 0) d_T_takeDecimal_21 (by decide) ?_
    refine x_sub [1, 0] rfl ?_
    exact w_T_takeDecimal_22 l D cs Ev hE adK adV fm X o a d post  r2 0 u1 h
  · have h := h.2 hc
    refine x_iconst (v := 1) d_T_takeDecimal_17 (by decide) ?_
    refine x_goto (tgt := 22) d_T_takeDecimal_18 rfl ?_
    refine x_sub [1, 0] rfl ?_
    exact w_T_takeDecimal_22 l D cs Ev hE adK adV fm X o a d post  r2 1 u1 h
def P_T_takeExponent_50 (post : Int32 → MS → Prop) (s0 : Int32) (u : MS) : Prop := P_T_digitsEnd (fun r6 u5 => ((r6 ≤ s0 → post 1 (sI u5 5 (gI u5 5))) ∧ (¬ r6 ≤ s0 → post 1 (sI u5 5 r6)))) s0 u
set_option maxHeartbeats 600000 in
set_option maxRecDepth 100000 in
theorem w_T_takeExponent_50 (l : Launch) (D : va_G) (cs : Nat → ClassId) (Ev : (Nat → Prop) → State → Prop) (hE : xEok Ev) (adK adV : Nat → Nat) (fm : Option Nat) (X : xEv adK adV fm Ev) (o : Nat) (a : Nat → Nat) (d : Nat) (post : Int32 → MS → Prop) (s0 : Int32) (u : MS) (h : P_T_takeExponent_50 post  s0 u) : RR l D clX (tysX cs) Ev "DeckFront$Tape" b_T_takeExponent 3 w_T_takeExponent (rmD (d + 5)) (some .boolean) (wdS o a cs) (pI post) 0 0 0 0 50 [(0, .ref o)] [.int s0] u := by
  unfold P_T_takeExponent_50 at h
  refine x_istore_n (lv' := [(1, .int s0), (0, .ref o)]) d_T_takeExponent_50 (by decide) rfl ?_
  refine x_aload_n (x := o) d_T_takeExponent_51 rfl ?_
  refine x_iload_n (x := s0) d_T_takeExponent_52 rfl ?_
  refine x_callV (st := []) k_T_66 rfl (eS_o _ _ _ _) x_id (c_T_digitsEnd l D cs Ev hE adK adV fm X o a (d + 3) _ s0 u h) hE (rmD_ok (by omega) (by decide)) rfl (Nat.le_of_ble_eq_true rfl) rfl d_T_takeExponent_53 (x_rI (fun r6 u5 h => ?_))
  refine x_istore_n (lv' := [(2, .int r6), (1, .int s0), (0, .ref o)]) d_T_takeExponent_56 (by decide) rfl ?_
  refine x_aload_n (x := o) d_T_takeExponent_57 rfl ?_
  refine x_iload_n (x := r6) d_T_takeExponent_58 rfl ?_
  refine x_iload_n (x := s0) d_T_takeExponent_59 rfl ?_
  refine x_icmp_le (tgt := 67) d_T_takeExponent_60 rfl (fun hc => ?_) (fun hc => ?_)
  · have h := h.1 hc
    refine x_aload_n (x := o) d_T_takeExponent_67 rfl ?_
    refine x_get (v := .int (gI u5 5)) f_T_29 (eS_o _ _ _ _) rfl d_T_takeExponent_68 ?_
    refine x_put f_T_29 fw_S_5 (eS_o _ _ _ _) rfl rfl (Nat.le_of_ble_eq_true rfl) (sS_5 _ _ _ _ _) d_T_takeExponent_71 ?_
    refine x_iconst (v := 1) d_T_takeExponent_74 (by decide) ?_
    refine x_zret rfl d_T_takeExponent_75 ⟨_, rfl, ?_⟩
    exact h
  · have h := h.2 hc
    refine x_iload_n (x := r6) d_T_takeExponent_63 rfl ?_
    refine x_goto (tgt := 71) d_T_takeExponent_64 rfl ?_
    refine x_put f_T_29 fw_S_5 (eS_o _ _ _ _) rfl rfl (Nat.le_of_ble_eq_true rfl) (sS_5 _ _ _ _ _) d_T_takeExponent_71 ?_
    refine x_iconst (v := 1) d_T_takeExponent_74 (by decide) ?_
    refine x_zret rfl d_T_takeExponent_75 ⟨_, rfl, ?_⟩
    exact h
def P_T_takeExponent_35 (post : Int32 → MS → Prop) (u : MS) : Prop := P_T_takeExponent_50 post ((gI u 5) + (2 : Int32)) u
set_option maxHeartbeats 600000 in
set_option maxRecDepth 100000 in
theorem w_T_takeExponent_35 (l : Launch) (D : va_G) (cs : Nat → ClassId) (Ev : (Nat → Prop) → State → Prop) (hE : xEok Ev) (adK adV : Nat → Nat) (fm : Option Nat) (X : xEv adK adV fm Ev) (o : Nat) (a : Nat → Nat) (d : Nat) (post : Int32 → MS → Prop) (u : MS) (h : P_T_takeExponent_35 post   u) : RR l D clX (tysX cs) Ev "DeckFront$Tape" b_T_takeExponent 3 w_T_takeExponent (rmD (d + 5)) (some .boolean) (wdS o a cs) (pI post) 0 0 0 0 35 [(0, .ref o)] [] u := by
  unfold P_T_takeExponent_35 at h
  refine x_aload_n (x := o) d_T_takeExponent_35 rfl ?_
  refine x_get (v := .int (gI u 5)) f_T_29 (eS_o _ _ _ _) rfl d_T_takeExponent_36 ?_
  refine x_iconst (v := 2) d_T_takeExponent_39 (by decide) ?_
  refine x_iadd d_T_takeExponent_40 ?_
  refine x_goto (tgt := 50) d_T_takeExponent_41 rfl ?_
  exact w_T_takeExponent_50 l D cs Ev hE adK adV fm X o a d post  ((gI u 5) + (2 : Int32)) u h
def P_T_takeExponent (post : Int32 → MS → Prop) (u : MS) : Prop := P_T_isNext (fun r2 u1 => ((r2 = 0 → post 1 u1) ∧ (¬ r2 = 0 → P_T_stands (fun r4 u3 => ((¬ r4 = 0 → P_T_takeExponent_35 post u3) ∧ (r4 = 0 → P_T_stands (fun r8 u7 => ((r8 = 0 → P_T_takeExponent_50 post ((gI u7 5) + (1 : Int32)) u7) ∧ (¬ r8 = 0 → P_T_takeExponent_35 post u7))) 18 (gI u3 5) u3))) 17 (gI u1 5) u1))) (69 : Int32) u
set_option maxHeartbeats 600000 in
set_option maxRecDepth 100000 in
theorem c_T_takeExponent (l : Launch) (D : va_G) (cs : Nat → ClassId) (Ev : (Nat → Prop) → State → Prop) (hE : xEok Ev) (adK adV : Nat → Nat) (fm : Option Nat) (X : xEv adK adV fm Ev) (o : Nat) (a : Nat → Nat) (d : Nat) (post : Int32 → MS → Prop) (u : MS) (h : P_T_takeExponent post  u) : xC l D clX (tysX cs) Ev y_T_takeExponent w_T_takeExponent (rmD (d + 5)) (wdS o a cs) [.ref o] u (pI post) 0 0 := by
  unfold P_T_takeExponent at h
  refine xC.of (cc := b_T_takeExponent) (nL := 3) (ret := (some .boolean)) (by decide) rfl (Nat.le_of_ble_eq_true rfl) ?_
  show RR l D clX (tysX cs) Ev "DeckFront$Tape" b_T_takeExponent 3 w_T_takeExponent (rmD (d + 5)) (some .boolean) (wdS o a cs) (pI post) 0 0 0 0 0 [(0, .ref o)] [] u
  refine x_aload_n (x := o) d_T_takeExponent_0 rfl ?_
  refine x_bipush (v := 69) d_T_takeExponent_1 (by decide) ?_
  refine x_callV (st := []) k_T_55 rfl (eS_o _ _ _ _) x_id (c_T_isNext l D cs Ev hE adK adV fm X o a (d + 4) _ (69 : Int32) u h) hE (rmD_ok (by omega) (by decide)) rfl (Nat.le_of_ble_eq_true rfl) rfl d_T_takeExponent_3 (x_rI (fun r2 u1 h => ?_))
  refine x_if_eq (tgt := 74) d_T_takeExponent_6 rfl (fun hc => ?_) (fun hc => ?_)
  · have h := h.1 hc
    refine x_iconst (v := 1) d_T_takeExponent_74 (by decide) ?_
    refine x_zret rfl d_T_takeExponent_75 ⟨_, rfl, ?_⟩
    exact h
  · have h := h.2 hc
    refine x_aload_n (x := o) d_T_takeExponent_9 rfl ?_
    refine x_aload_n (x := o) d_T_takeExponent_10 rfl ?_
    refine x_get (v := .int (gI u1 5)) f_T_29 (eS_o _ _ _ _) rfl d_T_takeExponent_11 ?_
    refine x_ldcS (fun A s h9 => ((X A s h9).2.1 17 (by decide)).1) d_T_takeExponent_14 ?_
    refine x_callV (st := []) k_T_51 rfl (eS_o _ _ _ _) x_id (c_T_stands l D cs Ev hE adK adV fm X o a 17 (by decide) (d + 0) _ (gI u1 5) u1 h) hE (rmD_ok (by omega) (by decide)) rfl (Nat.le_of_ble_eq_true rfl) rfl d_T_takeExponent_16 (x_rI (fun r4 u3 h => ?_))
    refine x_if_ne (tgt := 35) d_T_takeExponent_19 rfl (fun hc => ?_) (fun hc => ?_)
    · have h := h.1 hc
      exact w_T_takeExponent_35 l D cs Ev hE adK adV fm X o a d post  u3 h
    · have h := h.2 hc
      refine x_aload_n (x := o) d_T_takeExponent_22 rfl ?_
      refine x_aload_n (x := o) d_T_takeExponent_23 rfl ?_
      refine x_get (v := .int (gI u3 5)) f_T_29 (eS_o _ _ _ _) rfl d_T_takeExponent_24 ?_
      refine x_ldcS (fun A s h9 => ((X A s h9).2.1 18 (by decide)).1) d_T_takeExponent_27 ?_
      refine x_callV (st := []) k_T_51 rfl (eS_o _ _ _ _) x_id (c_T_stands l D cs Ev hE adK adV fm X o a 18 (by decide) (d + 0) _ (gI u3 5) u3 h) hE (rmD_ok (by omega) (by decide)) rfl (Nat.le_of_ble_eq_true rfl) rfl d_T_takeExponent_29 (x_rI (fun r8 u7 h => ?_))
      refine x_if_eq (tgt := 44) d_T_takeExponent_32 rfl (fun hc => ?_) (fun hc => ?_)
      · have h := h.1 hc
        refine x_aload_n (x := o) d_T_takeExponent_44 rfl ?_
        refine x_get (v := .int (gI u7 5)) f_T_29 (eS_o _ _ _ _) rfl d_T_takeExponent_45 ?_
        refine x_iconst (v := 1) d_T_takeExponent_48 (by decide) ?_
        refine x_iadd d_T_takeExponent_49 ?_
        exact w_T_takeExponent_50 l D cs Ev hE adK adV fm X o a d post  ((gI u7 5) + (1 : Int32)) u7 h
      · have h := h.2 hc
        exact w_T_takeExponent_35 l D cs Ev hE adK adV fm X o a d post  u7 h
def P_T_close (post : MS → Prop) (a0 : Int32) (u : MS) : Prop := (((gI u 5) ≤ 0 → post u) ∧ (¬ (gI u 5) ≤ 0 → (vp_in ((gI u 5) - (1 : Int32)) 80 ∧ (vp_in ((gI u 5) - (1 : Int32)) 80 ∧ post (sA u 2 ((gI u 5) - (1 : Int32)).toNatClampNeg ((gA u 2 ((gI u 5) - (1 : Int32)).toNatClampNeg) + a0))))))
set_option maxHeartbeats 600000 in
set_option maxRecDepth 100000 in
theorem c_T_close (l : Launch) (D : va_G) (cs : Nat → ClassId) (Ev : (Nat → Prop) → State → Prop) (hE : xEok Ev) (adK adV : Nat → Nat) (fm : Option Nat) (X : xEv adK adV fm Ev) (o : Nat) (a : Nat → Nat) (d : Nat) (post : MS → Prop) (a0 : Int32) (u : MS) (h : P_T_close post a0 u) : xC l D clX (tysX cs) Ev y_T_close w_T_close (rmD (d + 0)) (wdS o a cs) [.ref o, .int a0] u (pV post) 0 0 := by
  unfold P_T_close at h
  refine xC.of (cc := b_T_close) (nL := 2) (ret := none) (by decide) rfl (Nat.le_of_ble_eq_true rfl) ?_
  show RR l D clX (tysX cs) Ev "DeckFront$Tape" b_T_close 2 w_T_close (rmD (d + 0)) none (wdS o a cs) (pV post) 0 0 0 0 0 [(0, .ref o), (1, .int a0)] [] u
  refine x_aload_n (x := o) d_T_close_0 rfl ?_
  refine x_get (v := .int (gI u 5)) f_T_29 (eS_o _ _ _ _) rfl d_T_close_1 ?_
  refine x_if_le (tgt := 22) d_T_close_4 rfl (fun hc => ?_) (fun hc => ?_)
  · have h := h.1 hc
    refine x_vret d_T_close_22 ⟨rfl, ?_⟩
    exact h
  · have h := h.2 hc
    refine x_aload_n (x := o) d_T_close_7 rfl ?_
    refine x_get (v := .ref (a 2)) f_T_19 (eS_o _ _ _ _) rfl d_T_close_8 ?_
    refine x_aload_n (x := o) d_T_close_11 rfl ?_
    refine x_get (v := .int (gI u 5)) f_T_29 (eS_o _ _ _ _) rfl d_T_close_12 ?_
    refine x_iconst (v := 1) d_T_close_15 (by decide) ?_
    refine x_isub d_T_close_16 ?_
    refine x_dup2 d_T_close_17 rfl rfl ?_
    refine x_iald (t0 := 0) (eS_2 _ _ _ _) rfl h.1 d_T_close_18 ?_
    have h := h.2
    refine x_iload_n (x := a0) d_T_close_19 rfl ?_
    refine x_iadd d_T_close_20 ?_
    refine x_iast (t0 := 0) (eS_2 _ _ _ _) rfl h.1 (sS_2 _ _ _ _ _ _) d_T_close_21 ?_
    have h := h.2
    refine x_vret d_T_close_22 ⟨rfl, ?_⟩
    exact h
def P_T_signShown_62 (post : Int32 → MS → Prop) (K4 : Int32 → Int32 → MS → Prop) (x2 : Int32) (x3 : Int32) (u : MS) : Prop := (vp_in x3 80 ∧ (((gA u 2 x3.toNatClampNeg) ≤ x2 → (vp_in x3 80 ∧ (∀ v2, v2 = (x2 - (gA u 2 x3.toNatClampNeg)) → K4 v2 (x3 + 1) u))) ∧ (¬ (gA u 2 x3.toNatClampNeg) ≤ x2 → post 41 u)))
set_option maxHeartbeats 600000 in
set_option maxRecDepth 100000 in
theorem w_T_signShown_62 (l : Launch) (D : va_G) (cs : Nat → ClassId) (Ev : (Nat → Prop) → State → Prop) (hE : xEok Ev) (adK adV : Nat → Nat) (fm : Option Nat) (X : xEv adK adV fm Ev) (o : Nat) (a : Nat → Nat) (d : Nat) (post : Int32 → MS → Prop) (K4 : Int32 → Int32 → MS → Prop) (hK4 : ∀ (x2 : Int32) (x3 : Int32) (u : MS), K4 x2 x3 u → RR l D clX (tysX cs) Ev "DeckFront$Tape" b_T_signShown 4 w_T_signShown (rmD (d + 0)) (some .int) (wdS o a cs) (pI post) 0 0 0 0 4 [(0, .ref o), (2, .int x2), (3, .int x3)] [] u) (x2 : Int32) (x3 : Int32) (u : MS) (h : P_T_signShown_62 post K4 x2 x3 u) : RR l D clX (tysX cs) Ev "DeckFront$Tape" b_T_signShown 4 w_T_signShown (rmD (d + 0)) (some .int) (wdS o a cs) (pI post) 0 0 0 0 62 [(0, .ref o), (2, .int x2), (3, .int x3)] [] u := by
  unfold P_T_signShown_62 at h
  refine x_iload_n (x := x2) d_T_signShown_62 rfl ?_
  refine x_aload_n (x := o) d_T_signShown_63 rfl ?_
  refine x_get (v := .ref (a 2)) f_T_19 (eS_o _ _ _ _) rfl d_T_signShown_64 ?_
  refine x_iload_n (x := x3) d_T_signShown_67 rfl ?_
  refine x_iald (t0 := 0) (eS_2 _ _ _ _) rfl h.1 d_T_signShown_68 ?_
  have h := h.2
  refine x_icmp_ge (tgt := 75) d_T_signShown_69 rfl (fun hc => ?_) (fun hc => ?_)
  · have h := h.1 hc
    refine x_iload_n (x := x2) d_T_signShown_75 rfl ?_
    refine x_aload_n (x := o) d_T_signShown_76 rfl ?_
    refine x_get (v := .ref (a 2)) f_T_19 (eS_o _ _ _ _) rfl d_T_signShown_77 ?_
    refine x_iload_n (x := x3) d_T_signShown_80 rfl ?_
    refine x_iald (t0 := 0) (eS_2 _ _ _ _) rfl h.1 d_T_signShown_81 ?_
    have h := h.2
    refine x_isub d_T_signShown_82 ?_
    refine x_topI (fun v2 ev2 => ?_)
    have h := h v2 ev2
    refine x_istore_n (lv' := [(2, .int v2), (0, .ref o), (3, .int x3)]) d_T_signShown_83 (by decide) rfl ?_
    refine x_iinc (v := x3 + 1) (lv' := [(3, .int (x3 + 1)), (2, .int v2), (0, .ref o)]) d_T_signShown_84 rfl rfl (by decide) rfl ?_
    refine x_goto (tgt := 4) d_T_signShown_87 rfl ?_
    refine x_sub [2, 1, 0] rfl ?_
    exact hK4 v2 (x3 + 1) u h
  · have h := h.2 hc
    refine x_bipush (v := 41) d_T_signShown_72 (by decide) ?_
    refine x_iret d_T_signShown_74 ⟨_, rfl, ?_⟩
    exact h
def P_T_signShown_4 (post : Int32 → MS → Prop) : Nat → Int32 → Int32 → MS → Prop
  | 0, _, _, _ => False
  | f + 1, x2, x3, u => (((gI u 4) ≤ x3 → post (-1) u) ∧ (¬ (gI u 4) ≤ x3 → ((x2 < 0 → post (-1) u) ∧ (¬ x2 < 0 → (vp_in x3 80 ∧ (((gA u 1 x3.toNatClampNeg) ≤ x2 → (vp_in x3 80 ∧ (∀ v1, v1 = (x2 - (gA u 1 x3.toNatClampNeg)) → (vp_in x3 80 ∧ (((gA u 3 x3.toNatClampNeg) = 5 → P_T_signShown_62 post (fun zx2 zx3 zu => P_T_signShown_4 post f zx2 zx3 zu) v1 x3 u) ∧ (¬ (gA u 3 x3.toNatClampNeg) = 5 → ((¬ v1 = 0 → P_T_signShown_62 post (fun zx2 zx3 zu => P_T_signShown_4 post f zx2 zx3 zu) (v1 + (-1)) x3 u) ∧ (v1 = 0 → (vp_in x3 80 ∧ post (gA u 0 x3.toNatClampNeg) u))))))))) ∧ (¬ (gA u 1 x3.toNatClampNeg) ≤ x2 → post 40 u)))))))
set_option maxHeartbeats 600000 in
set_option maxRecDepth 100000 in
theorem w_T_signShown_4 (l : Launch) (D : va_G) (cs : Nat → ClassId) (Ev : (Nat → Prop) → State → Prop) (hE : xEok Ev) (adK adV : Nat → Nat) (fm : Option Nat) (X : xEv adK adV fm Ev) (o : Nat) (a : Nat → Nat) (d : Nat) (post : Int32 → MS → Prop) : ∀ (f : Nat) (x2 : Int32) (x3 : Int32) (u : MS), P_T_signShown_4 post  f x2 x3 u → RR l D clX (tysX cs) Ev "DeckFront$Tape" b_T_signShown 4 w_T_signShown (rmD (d + 0)) (some .int) (wdS o a cs) (pI post) 0 0 0 0 4 [(0, .ref o), (2, .int x2), (3, .int x3)] [] u := by
  intro f
  induction f with
  | zero => intro x2 x3 u h; exact h.elim
  | succ f ih =>
    intro x2 x3 u h
    unfold P_T_signShown_4 at h
    refine x_iload_n (x := x3) d_T_signShown_4 rfl ?_
    refine x_aload_n (x := o) d_T_signShown_5 rfl ?_
    refine x_get (v := .int (gI u 4)) f_T_25 (eS_o _ _ _ _) rfl d_T_signShown_6 ?_
    refine x_icmp_ge (tgt := 90) d_T_signShown_9 rfl (fun hc => ?_) (fun hc => ?_)
    · have h := h.1 hc
      refine x_iconst (v := (-1)) d_T_signShown_90 (by decide) ?_
      refine x_iret d_T_signShown_91 ⟨_, rfl, ?_⟩
      exact h
    · have h := h.2 hc
      refine x_iload_n (x := x2) d_T_signShown_12 rfl ?_
      refine x_if_lt (tgt := 90) d_T_signShown_13 rfl (fun hc => ?_) (fun hc => ?_)
      · have h := h.1 hc
        refine x_iconst (v := (-1)) d_T_signShown_90 (by decide) ?_
        refine x_iret d_T_signShown_91 ⟨_, rfl, ?_⟩
        exact h
      · have h := h.2 hc
        refine x_iload_n (x := x2) d_T_signShown_16 rfl ?_
        refine x_aload_n (x := o) d_T_signShown_17 rfl ?_
        refine x_get (v := .ref (a 1)) f_T_15 (eS_o _ _ _ _) rfl d_T_signShown_18 ?_
        refine x_iload_n (x := x3) d_T_signShown_21 rfl ?_
        refine x_iald (t0 := 0) (eS_1 _ _ _ _) rfl h.1 d_T_signShown_22 ?_
        have h := h.2
        refine x_icmp_ge (tgt := 29) d_T_signShown_23 rfl (fun hc => ?_) (fun hc => ?_)
        · have h := h.1 hc
          refine x_iload_n (x := x2) d_T_signShown_29 rfl ?_
          refine x_aload_n (x := o) d_T_signShown_30 rfl ?_
          refine x_get (v := .ref (a 1)) f_T_15 (eS_o _ _ _ _) rfl d_T_signShown_31 ?_
          refine x_iload_n (x := x3) d_T_signShown_34 rfl ?_
          refine x_iald (t0 := 0) (eS_1 _ _ _ _) rfl h.1 d_T_signShown_35 ?_
          have h := h.2
          refine x_isub d_T_signShown_36 ?_
          refine x_topI (fun v1 ev1 => ?_)
          have h := h v1 ev1
          refine x_istore_n (lv' := [(2, .int v1), (0, .ref o), (3, .int x3)]) d_T_signShown_37 (by decide) rfl ?_
          refine x_aload_n (x := o) d_T_signShown_38 rfl ?_
          refine x_get (v := .ref (a 3)) f_T_22 (eS_o _ _ _ _) rfl d_T_signShown_39 ?_
          refine x_iload_n (x := x3) d_T_signShown_42 rfl ?_
          refine x_iald (t0 := 0) (eS_3 _ _ _ _) rfl h.1 d_T_signShown_43 ?_
          have h := h.2
          refine x_iconst (v := 5) d_T_signShown_44 (by decide) ?_
          refine x_icmp_eq (tgt := 62) d_T_signShown_45 rfl (fun hc => ?_) (fun hc => ?_)
          · have h := h.1 hc
            refine x_sub [1, 0, 2] rfl ?_
            exact w_T_signShown_62 l D cs Ev hE adK adV fm X o a d post (fun zx2 zx3 zu => P_T_signShown_4 post f zx2 zx3 zu) ih v1 x3 u h
          · have h := h.2 hc
            refine x_iload_n (x := v1) d_T_signShown_48 rfl ?_
            refine x_if_ne (tgt := 59) d_T_signShown_49 rfl (fun hc => ?_) (fun hc => ?_)
            · have h := h.1 hc
              refine x_iinc (v := v1 + (-1)) (lv' := [(2, .int (v1 + (-1))), (0, .ref o), (3, .int x3)]) d_T_signShown_59 rfl rfl (by decide) rfl ?_
              refine x_sub [1, 0, 2] rfl ?_
              exact w_T_signShown_62 l D cs Ev hE adK adV fm X o a d post (fun zx2 zx3 zu => P_T_signShown_4 post f zx2 zx3 zu) ih (v1 + (-1)) x3 u h
            · have h := h.2 hc
              refine x_aload_n (x := o) d_T_signShown_52 rfl ?_
              refine x_get (v := .ref (a 0)) f_T_9 (eS_o _ _ _ _) rfl d_T_signShown_53 ?_
              refine x_iload_n (x := x3) d_T_signShown_56 rfl ?_
              refine x_cald (t0 := 1) (eS_0 _ _ _ _) rfl h.1 d_T_signShown_57 ?_
              have h := h.2
              refine x_iret d_T_signShown_58 ⟨_, rfl, ?_⟩
              exact h
        · have h := h.2 hc
          refine x_bipush (v := 40) d_T_signShown_26 (by decide) ?_
          refine x_iret d_T_signShown_28 ⟨_, rfl, ?_⟩
          exact h
def P_T_signShown (post : Int32 → MS → Prop) (a0 : Int32) (u : MS) : Prop := (∃ g, P_T_signShown_4 post g a0 0 u)
set_option maxHeartbeats 600000 in
set_option maxRecDepth 100000 in
theorem c_T_signShown (l : Launch) (D : va_G) (cs : Nat → ClassId) (Ev : (Nat → Prop) → State → Prop) (hE : xEok Ev) (adK adV : Nat → Nat) (fm : Option Nat) (X : xEv adK adV fm Ev) (o : Nat) (a : Nat → Nat) (d : Nat) (post : Int32 → MS → Prop) (a0 : Int32) (u : MS) (h : P_T_signShown post a0 u) : xC l D clX (tysX cs) Ev y_T_signShown w_T_signShown (rmD (d + 0)) (wdS o a cs) [.ref o, .int a0] u (pI post) 0 0 := by
  unfold P_T_signShown at h
  refine xC.of (cc := b_T_signShown) (nL := 4) (ret := (some .int)) (by decide) rfl (Nat.le_of_ble_eq_true rfl) ?_
  show RR l D clX (tysX cs) Ev "DeckFront$Tape" b_T_signShown 4 w_T_signShown (rmD (d + 0)) (some .int) (wdS o a cs) (pI post) 0 0 0 0 0 [(0, .ref o), (1, .int a0)] [] u
  refine x_iload_n (x := a0) d_T_signShown_0 rfl ?_
  refine x_istore_n (lv' := [(2, .int a0), (0, .ref o), (1, .int a0)]) d_T_signShown_1 (by decide) rfl ?_
  refine x_iconst (v := 0) d_T_signShown_2 (by decide) ?_
  refine x_istore_n (lv' := [(3, .int 0), (2, .int a0), (0, .ref o), (1, .int a0)]) d_T_signShown_3 (by decide) rfl ?_
  refine x_sub [2, 1, 0] rfl ?_
  obtain ⟨f9, h⟩ := h
  exact w_T_signShown_4 l D cs Ev hE adK adV fm X o a d post  f9 a0 0 u h
def P_T_nameAt_52 (post : Int64 → MS → Prop) (K5 : Int32 → Int64 → Int32 → MS → Prop) (x1 : Int32) (x2 : Int64) (x4 : Int32) (u : MS) : Prop := (vp_in x4 80 ∧ (∀ v1, v1 = ((x2 <<< ((8 : Int32).toInt64 &&& 63)) ||| ((gA u 0 x4.toNatClampNeg).toInt64)) → K5 x1 v1 (x4 + 1) u))
set_option maxHeartbeats 600000 in
set_option maxRecDepth 100000 in
theorem w_T_nameAt_52 (l : Launch) (D : va_G) (cs : Nat → ClassId) (Ev : (Nat → Prop) → State → Prop) (hE : xEok Ev) (adK adV : Nat → Nat) (fm : Option Nat) (X : xEv adK adV fm Ev) (o : Nat) (a : Nat → Nat) (d : Nat) (post : Int64 → MS → Prop) (K5 : Int32 → Int64 → Int32 → MS → Prop) (hK5 : ∀ (x1 : Int32) (x2 : Int64) (x4 : Int32) (u : MS), K5 x1 x2 x4 u → RR l D clX (tysX cs) Ev "DeckFront$Tape" b_T_nameAt 5 w_T_nameAt (rmD (d + 1)) (some .long) (wdS o a cs) (pJ post) 0 0 0 0 5 [(0, .ref o), (1, .int x1), (2, .long x2), (4, .int x4)] [] u) (x1 : Int32) (x2 : Int64) (x4 : Int32) (u : MS) (h : P_T_nameAt_52 post K5 x1 x2 x4 u) : RR l D clX (tysX cs) Ev "DeckFront$Tape" b_T_nameAt 5 w_T_nameAt (rmD (d + 1)) (some .long) (wdS o a cs) (pJ post) 0 0 0 0 52 [(0, .ref o), (1, .int x1), (2, .long x2), (4, .int x4)] [] u := by
  unfold P_T_nameAt_52 at h
  refine x_lload_n (x := x2) d_T_nameAt_52 rfl ?_
  refine x_bipush (v := 8) d_T_nameAt_53 (by decide) ?_
  refine x_lshl d_T_nameAt_55 ?_
  refine x_aload_n (x := o) d_T_nameAt_56 rfl ?_
  refine x_get (v := .ref (a 0)) f_T_9 (eS_o _ _ _ _) rfl d_T_nameAt_57 ?_
  refine x_iload (x := x4) d_T_nameAt_60 rfl ?_
  refine x_cald (t0 := 1) (eS_0 _ _ _ _) rfl h.1 d_T_nameAt_62 ?_
  have h := h.2
  refine x_i2l d_T_nameAt_63 ?_
  refine x_lor d_T_nameAt_64 ?_
  refine x_topJ (fun v1 ev1 => ?_)
  have h := h v1 ev1
  refine x_lstore_n (lv' := [(2, .long v1), (0, .ref o), (1, .int x1), (4, .int x4)]) d_T_nameAt_65 (by decide) rfl ?_
  refine x_iinc (v := x4 + 1) (lv' := [(4, .int (x4 + 1)), (2, .long v1), (0, .ref o), (1, .int x1)]) d_T_nameAt_66 rfl rfl (by decide) rfl ?_
  refine x_goto (tgt := 5) d_T_nameAt_69 rfl ?_
  refine x_sub [2, 3, 1, 0] rfl ?_
  exact hK5 x1 v1 (x4 + 1) u h
def P_T_nameAt_5 (post : Int64 → MS → Prop) : Nat → Int32 → Int64 → Int32 → MS → Prop
  | 0, _, _, _, _ => False
  | f + 1, x1, x2, x4, u => (((x1 + (6 : Int32)) ≤ x4 → post x2 u) ∧ (¬ (x1 + (6 : Int32)) ≤ x4 → (((gI u 4) ≤ x4 → post x2 u) ∧ (¬ (gI u 4) ≤ x4 → (vp_in x4 80 ∧ ((¬ (isLet (gA u 0 x4.toNatClampNeg)) = 0 → P_T_nameAt_52 post (fun zx1 zx2 zx4 zu => P_T_nameAt_5 post f zx1 zx2 zx4 zu) x1 x2 x4 u) ∧ ((isLet (gA u 0 x4.toNatClampNeg)) = 0 → (vp_in x4 80 ∧ ((¬ (isDig (gA u 0 x4.toNatClampNeg)) = 0 → P_T_nameAt_52 post (fun zx1 zx2 zx4 zu => P_T_nameAt_5 post f zx1 zx2 zx4 zu) x1 x2 x4 u) ∧ ((isDig (gA u 0 x4.toNatClampNeg)) = 0 → post x2 u))))))))))
set_option maxHeartbeats 600000 in
set_option maxRecDepth 100000 in
theorem w_T_nameAt_5 (l : Launch) (D : va_G) (cs : Nat → ClassId) (Ev : (Nat → Prop) → State → Prop) (hE : xEok Ev) (adK adV : Nat → Nat) (fm : Option Nat) (X : xEv adK adV fm Ev) (o : Nat) (a : Nat → Nat) (d : Nat) (post : Int64 → MS → Prop) : ∀ (f : Nat) (x1 : Int32) (x2 : Int64) (x4 : Int32) (u : MS), P_T_nameAt_5 post  f x1 x2 x4 u → RR l D clX (tysX cs) Ev "DeckFront$Tape" b_T_nameAt 5 w_T_nameAt (rmD (d + 1)) (some .long) (wdS o a cs) (pJ post) 0 0 0 0 5 [(0, .ref o), (1, .int x1), (2, .long x2), (4, .int x4)] [] u := by
  intro f
  induction f with
  | zero => intro x1 x2 x4 u h; exact h.elim
  | succ f ih =>
    intro x1 x2 x4 u h
    unfold P_T_nameAt_5 at h
    refine x_iload (x := x4) d_T_nameAt_5 rfl ?_
    refine x_iload_n (x := x1) d_T_nameAt_7 rfl ?_
    refine x_bipush (v := 6) d_T_nameAt_8 (by decide) ?_
    refine x_iadd d_T_nameAt_10 ?_
    refine x_icmp_ge (tgt := 72) d_T_nameAt_11 rfl (fun hc => ?_) (fun hc => ?_)
    · have h := h.1 hc
      refine x_lload_n (x := x2) d_T_nameAt_72 rfl ?_
      refine x_lret d_T_nameAt_73 ⟨_, rfl, ?_⟩
      exact h
    · have h := h.2 hc
      refine x_iload (x := x4) d_T_nameAt_14 rfl ?_
      refine x_aload_n (x := o) d_T_nameAt_16 rfl ?_
      refine x_get (v := .int (gI u 4)) f_T_25 (eS_o _ _ _ _) rfl d_T_nameAt_17 ?_
      refine x_icmp_ge (tgt := 72) d_T_nameAt_20 rfl (fun hc => ?_) (fun hc => ?_)
      · have h := h.1 hc
        refine x_lload_n (x := x2) d_T_nameAt_72 rfl ?_
        refine x_lret d_T_nameAt_73 ⟨_, rfl, ?_⟩
        exact h
      · have h := h.2 hc
        refine x_aload_n (x := o) d_T_nameAt_23 rfl ?_
        refine x_get (v := .ref (a 0)) f_T_9 (eS_o _ _ _ _) rfl d_T_nameAt_24 ?_
        refine x_iload (x := x4) d_T_nameAt_27 rfl ?_
        refine x_cald (t0 := 1) (eS_0 _ _ _ _) rfl h.1 d_T_nameAt_29 ?_
        have h := h.2
        refine x_callSN (st := []) (k_T_63 X) x_none (cf_D_isLetter l D cs Ev hE adK adV fm X (d + 0) (gA u 0 x4.toNatClampNeg)) hE (rmD_ok (by omega) (by decide)) rfl (Nat.le_of_ble_eq_true rfl) rfl d_T_nameAt_30 (x_rI (fun x u1 h9 => ?_))
        obtain ⟨rfl, rfl⟩ := h9
        refine x_if_ne (tgt := 52) d_T_nameAt_33 rfl (fun hc => ?_) (fun hc => ?_)
        · have h := h.1 hc
          exact w_T_nameAt_52 l D cs Ev hE adK adV fm X o a d post (fun zx1 zx2 zx4 zu => P_T_nameAt_5 post f zx1 zx2 zx4 zu) ih x1 x2 x4 u h
        · have h := h.2 hc
          refine x_aload_n (x := o) d_T_nameAt_36 rfl ?_
          refine x_get (v := .ref (a 0)) f_T_9 (eS_o _ _ _ _) rfl d_T_nameAt_37 ?_
          refine x_iload (x := x4) d_T_nameAt_40 rfl ?_
          refine x_cald (t0 := 1) (eS_0 _ _ _ _) rfl h.1 d_T_nameAt_42 ?_
          have h := h.2
          refine x_callSN (st := []) (k_T_59 X) x_none (cf_D_isDigit l D cs Ev hE adK adV fm X (d + 0) (gA u 0 x4.toNatClampNeg)) hE (rmD_ok (by omega) (by decide)) rfl (Nat.le_of_ble_eq_true rfl) rfl d_T_nameAt_43 (x_rI (fun x u1 h9 => ?_))
          obtain ⟨rfl, rfl⟩ := h9
          refine x_if_ne (tgt := 52) d_T_nameAt_46 rfl (fun hc => ?_) (fun hc => ?_)
          · have h := h.1 hc
            exact w_T_nameAt_52 l D cs Ev hE adK adV fm X o a d post (fun zx1 zx2 zx4 zu => P_T_nameAt_5 post f zx1 zx2 zx4 zu) ih x1 x2 x4 u h
          · have h := h.2 hc
            refine x_goto (tgt := 72) d_T_nameAt_49 rfl ?_
            refine x_lload_n (x := x2) d_T_nameAt_72 rfl ?_
            refine x_lret d_T_nameAt_73 ⟨_, rfl, ?_⟩
            exact h
def P_T_nameAt (post : Int64 → MS → Prop) (a0 : Int32) (u : MS) : Prop := (∃ g, P_T_nameAt_5 post g a0 0 a0 u)
set_option maxHeartbeats 600000 in
set_option maxRecDepth 100000 in
theorem c_T_nameAt (l : Launch) (D : va_G) (cs : Nat → ClassId) (Ev : (Nat → Prop) → State → Prop) (hE : xEok Ev) (adK adV : Nat → Nat) (fm : Option Nat) (X : xEv adK adV fm Ev) (o : Nat) (a : Nat → Nat) (d : Nat) (post : Int64 → MS → Prop) (a0 : Int32) (u : MS) (h : P_T_nameAt post a0 u) : xC l D clX (tysX cs) Ev y_T_nameAt w_T_nameAt (rmD (d + 1)) (wdS o a cs) [.ref o, .int a0] u (pJ post) 0 0 := by
  unfold P_T_nameAt at h
  refine xC.of (cc := b_T_nameAt) (nL := 5) (ret := (some .long)) (by decide) rfl (Nat.le_of_ble_eq_true rfl) ?_
  show RR l D clX (tysX cs) Ev "DeckFront$Tape" b_T_nameAt 5 w_T_nameAt (rmD (d + 1)) (some .long) (wdS o a cs) (pJ post) 0 0 0 0 0 [(0, .ref o), (1, .int a0)] [] u
  refine x_lconst (v := 0) d_T_nameAt_0 (by decide) ?_
  refine x_lstore_n (lv' := [(2, .long 0), (0, .ref o), (1, .int a0)]) d_T_nameAt_1 (by decide) rfl ?_
  refine x_iload_n (x := a0) d_T_nameAt_2 rfl ?_
  refine x_istore (lv' := [(4, .int a0), (2, .long 0), (0, .ref o), (1, .int a0)]) d_T_nameAt_3 (by decide) rfl ?_
  refine x_sub [2, 3, 1, 0] rfl ?_
  obtain ⟨f9, h⟩ := h
  exact w_T_nameAt_5 l D cs Ev hE adK adV fm X o a d post  f9 a0 0 a0 u h
def P_T_kindHere_82 (post : Int32 → MS → Prop) (K5 : Int64 → Int32 → Int32 → MS → Prop) (x1 : Int64) (x3 : Int32) (x4 : Int32) (u : MS) : Prop := K5 x1 x3 (x4 + 1) u
set_option maxHeartbeats 600000 in
set_option maxRecDepth 100000 in
theorem w_T_kindHere_82 (l : Launch) (D : va_G) (cs : Nat → ClassId) (Ev : (Nat → Prop) → State → Prop) (hE : xEok Ev) (adK adV : Nat → Nat) (fm : Option Nat) (X : xEv adK adV fm Ev) (o : Nat) (a : Nat → Nat) (d : Nat) (post : Int32 → MS → Prop) (K5 : Int64 → Int32 → Int32 → MS → Prop) (hK5 : ∀ (x1 : Int64) (x3 : Int32) (x4 : Int32) (u : MS), K5 x1 x3 x4 u → RR l D clX (tysX cs) Ev "DeckFront$Tape" b_T_kindHere 6 w_T_kindHere (rmD (d + 2)) (some .int) (wdS o a cs) (pI post) 0 0 0 0 5 [(0, .ref o), (1, .long x1), (3, .int x3), (4, .int x4)] [] u) (x1 : Int64) (x3 : Int32) (x4 : Int32) (u : MS) (h : P_T_kindHere_82 post K5 x1 x3 x4 u) : RR l D clX (tysX cs) Ev "DeckFront$Tape" b_T_kindHere 6 w_T_kindHere (rmD (d + 2)) (some .int) (wdS o a cs) (pI post) 0 0 0 0 82 [(0, .ref o), (1, .long x1), (3, .int x3), (4, .int x4)] [] u := by
  unfold P_T_kindHere_82 at h
  refine x_iinc (v := x4 + 1) (lv' := [(4, .int (x4 + 1)), (0, .ref o), (1, .long x1), (3, .int x3)]) d_T_kindHere_82 rfl rfl (by decide) rfl ?_
  refine x_goto (tgt := 5) d_T_kindHere_85 rfl ?_
  refine x_sub [1, 2, 3, 0] rfl ?_
  exact hK5 x1 x3 (x4 + 1) u h
def P_T_kindHere_63 (post : Int32 → MS → Prop) (K5 : Int64 → Int32 → Int32 → MS → Prop) (x1 : Int64) (x3 : Int32) (x4 : Int32) (u : MS) : Prop := P_T_nameAt (fun r2 u1 => ((¬ (lg_cmp r2 x1) = 0 → P_T_kindHere_82 post K5 x1 x3 x4 u1) ∧ ((lg_cmp r2 x1) = 0 → (vp_in x4 80 ∧ (∀ v3, v3 = (gA u1 3 x4.toNatClampNeg) → P_T_kindHere_82 post K5 x1 v3 x4 u1))))) x4 u
set_option maxHeartbeats 600000 in
set_option maxRecDepth 100000 in
theorem w_T_kindHere_63 (l : Launch) (D : va_G) (cs : Nat → ClassId) (Ev : (Nat → Prop) → State → Prop) (hE : xEok Ev) (adK adV : Nat → Nat) (fm : Option Nat) (X : xEv adK adV fm Ev) (o : Nat) (a : Nat → Nat) (d : Nat) (post : Int32 → MS → Prop) (K5 : Int64 → Int32 → Int32 → MS → Prop) (hK5 : ∀ (x1 : Int64) (x3 : Int32) (x4 : Int32) (u : MS), K5 x1 x3 x4 u → RR l D clX (tysX cs) Ev "DeckFront$Tape" b_T_kindHere 6 w_T_kindHere (rmD (d + 2)) (some .int) (wdS o a cs) (pI post) 0 0 0 0 5 [(0, .ref o), (1, .long x1), (3, .int x3), (4, .int x4)] [] u) (x1 : Int64) (x3 : Int32) (x4 : Int32) (u : MS) (h : P_T_kindHere_63 post K5 x1 x3 x4 u) : RR l D clX (tysX cs) Ev "DeckFront$Tape" b_T_kindHere 6 w_T_kindHere (rmD (d + 2)) (some .int) (wdS o a cs) (pI post) 0 0 0 0 63 [(0, .ref o), (1, .long x1), (3, .int x3), (4, .int x4)] [] u := by
  unfold P_T_kindHere_63 at h
  refine x_aload_n (x := o) d_T_kindHere_63 rfl ?_
  refine x_iload (x := x4) d_T_kindHere_64 rfl ?_
  refine x_callV (st := []) k_T_101 rfl (eS_o _ _ _ _) x_id (c_T_nameAt l D cs Ev hE adK adV fm X o a (d + 0) _ x4 u h) hE (rmD_ok (by omega) (by decide)) rfl (Nat.le_of_ble_eq_true rfl) rfl d_T_kindHere_66 (x_rJ (fun r2 u1 h => ?_))
  refine x_lload_n (x := x1) d_T_kindHere_69 rfl ?_
  refine x_lcmp d_T_kindHere_70 ?_
  refine x_if_ne (tgt := 82) d_T_kindHere_71 rfl (fun hc => ?_) (fun hc => ?_)
  · have h := h.1 hc
    exact w_T_kindHere_82 l D cs Ev hE adK adV fm X o a d post K5 hK5 x1 x3 x4 u1 h
  · have h := h.2 hc
    refine x_aload_n (x := o) d_T_kindHere_74 rfl ?_
    refine x_get (v := .ref (a 3)) f_T_22 (eS_o _ _ _ _) rfl d_T_kindHere_75 ?_
    refine x_iload (x := x4) d_T_kindHere_78 rfl ?_
    refine x_iald (t0 := 0) (eS_3 _ _ _ _) rfl h.1 d_T_kindHere_80 ?_
    have h := h.2
    refine x_topI (fun v3 ev3 => ?_)
    have h := h v3 ev3
    refine x_istore_n (lv' := [(3, .int v3), (0, .ref o), (1, .long x1), (4, .int x4)]) d_T_kindHere_81 (by decide) rfl ?_
    refine x_sub [1, 2, 0, 3] rfl ?_
    exact w_T_kindHere_82 l D cs Ev hE adK adV fm X o a d post K5 hK5 x1 v3 x4 u1 h
def P_T_kindHere_41 (post : Int32 → MS → Prop) (K5 : Int64 → Int32 → Int32 → MS → Prop) (x1 : Int64) (x3 : Int32) (x4 : Int32) (s0 : Int32) (u : MS) : Prop := ((s0 = 0 → P_T_kindHere_82 post K5 x1 x3 x4 u) ∧ (¬ s0 = 0 → ((x3 = 0 → P_T_kindHere_63 post K5 x1 x3 x4 u) ∧ (¬ x3 = 0 → (vp_in x4 80 ∧ ((x3 ≤ (gA u 3 x4.toNatClampNeg) → P_T_kindHere_82 post K5 x1 x3 x4 u) ∧ (¬ x3 ≤ (gA u 3 x4.toNatClampNeg) → P_T_kindHere_63 post K5 x1 x3 x4 u)))))))
set_option maxHeartbeats 600000 in
set_option maxRecDepth 100000 in
theorem w_T_kindHere_41 (l : Launch) (D : va_G) (cs : Nat → ClassId) (Ev : (Nat → Prop) → State → Prop) (hE : xEok Ev) (adK adV : Nat → Nat) (fm : Option Nat) (X : xEv adK adV fm Ev) (o : Nat) (a : Nat → Nat) (d : Nat) (post : Int32 → MS → Prop) (K5 : Int64 → Int32 → Int32 → MS → Prop) (hK5 : ∀ (x1 : Int64) (x3 : Int32) (x4 : Int32) (u : MS), K5 x1 x3 x4 u → RR l D clX (tysX cs) Ev "DeckFront$Tape" b_T_kindHere 6 w_T_kindHere (rmD (d + 2)) (some .int) (wdS o a cs) (pI post) 0 0 0 0 5 [(0, .ref o), (1, .long x1), (3, .int x3), (4, .int x4)] [] u) (x1 : Int64) (x3 : Int32) (x4 : Int32) (s0 : Int32) (u : MS) (h : P_T_kindHere_41 post K5 x1 x3 x4 s0 u) : RR l D clX (tysX cs) Ev "DeckFront$Tape" b_T_kindHere 6 w_T_kindHere (rmD (d + 2)) (some .int) (wdS o a cs) (pI post) 0 0 0 0 41 [(0, .ref o), (1, .long x1), (3, .int x3), (4, .int x4)] [.int s0] u := by
  unfold P_T_kindHere_41 at h
  refine x_istore (lv' := [(5, .int s0), (0, .ref o), (1, .long x1), (3, .int x3), (4, .int x4)]) d_T_kindHere_41 (by decide) rfl ?_
  refine x_iload (x := s0) d_T_kindHere_43 rfl ?_
  refine x_if_eq (tgt := 82) d_T_kindHere_45 rfl (fun hc => ?_) (fun hc => ?_)
  · have h := h.1 hc
    refine x_sub [1, 2, 3, 4] rfl ?_
    exact w_T_kindHere_82 l D cs Ev hE adK adV fm X o a d post K5 hK5 x1 x3 x4 u h
  · have h := h.2 hc
    refine x_iload_n (x := x3) d_T_kindHere_48 rfl ?_
    refine x_if_eq (tgt := 63) d_T_kindHere_49 rfl (fun hc => ?_) (fun hc => ?_)
    · have h := h.1 hc
      refine x_sub [1, 2, 3, 4] rfl ?_
      exact w_T_kindHere_63 l D cs Ev hE adK adV fm X o a d post K5 hK5 x1 x3 x4 u h
    · have h := h.2 hc
      refine x_aload_n (x := o) d_T_kindHere_52 rfl ?_
      refine x_get (v := .ref (a 3)) f_T_22 (eS_o _ _ _ _) rfl d_T_kindHere_53 ?_
      refine x_iload (x := x4) d_T_kindHere_56 rfl ?_
      refine x_iald (t0 := 0) (eS_3 _ _ _ _) rfl h.1 d_T_kindHere_58 ?_
      have h := h.2
      refine x_iload_n (x := x3) d_T_kindHere_59 rfl ?_
      refine x_icmp_ge (tgt := 82) d_T_kindHere_60 rfl (fun hc => ?_) (fun hc => ?_)
      · have h := h.1 hc
        refine x_sub [1, 2, 3, 4] rfl ?_
        exact w_T_kindHere_82 l D cs Ev hE adK adV fm X o a d post K5 hK5 x1 x3 x4 u h
      · have h := h.2 hc
        refine x_sub [1, 2, 3, 4] rfl ?_
        exact w_T_kindHere_63 l D cs Ev hE adK adV fm X o a d post K5 hK5 x1 x3 x4 u h
def P_T_kindHere_40 (post : Int32 → MS → Prop) (K5 : Int64 → Int32 → Int32 → MS → Prop) (x1 : Int64) (x3 : Int32) (x4 : Int32) (u : MS) : Prop := P_T_kindHere_41 post K5 x1 x3 x4 0 u
set_option maxHeartbeats 600000 in
set_option maxRecDepth 100000 in
theorem w_T_kindHere_40 (l : Launch) (D : va_G) (cs : Nat → ClassId) (Ev : (Nat → Prop) → State → Prop) (hE : xEok Ev) (adK adV : Nat → Nat) (fm : Option Nat) (X : xEv adK adV fm Ev) (o : Nat) (a : Nat → Nat) (d : Nat) (post : Int32 → MS → Prop) (K5 : Int64 → Int32 → Int32 → MS → Prop) (hK5 : ∀ (x1 : Int64) (x3 : Int32) (x4 : Int32) (u : MS), K5 x1 x3 x4 u → RR l D clX (tysX cs) Ev "DeckFront$Tape" b_T_kindHere 6 w_T_kindHere (rmD (d + 2)) (some .int) (wdS o a cs) (pI post) 0 0 0 0 5 [(0, .ref o), (1, .long x1), (3, .int x3), (4, .int x4)] [] u) (x1 : Int64) (x3 : Int32) (x4 : Int32) (u : MS) (h : P_T_kindHere_40 post K5 x1 x3 x4 u) : RR l D clX (tysX cs) Ev "DeckFront$Tape" b_T_kindHere 6 w_T_kindHere (rmD (d + 2)) (some .int) (wdS o a cs) (pI post) 0 0 0 0 40 [(0, .ref o), (1, .long x1), (3, .int x3), (4, .int x4)] [] u := by
  unfold P_T_kindHere_40 at h
  refine x_iconst (v := 0) d_T_kindHere_40 (by decide) ?_
  exact w_T_kindHere_41 l D cs Ev hE adK adV fm X o a d post K5 hK5 x1 x3 x4 0 u h
def P_T_kindHere_5 (post : Int32 → MS → Prop) : Nat → Int64 → Int32 → Int32 → MS → Prop
  | 0, _, _, _, _ => False
  | f + 1, x1, x3, x4, u => (((gI u 4) ≤ x4 → post x3 u) ∧ (¬ (gI u 4) ≤ x4 → (vp_in x4 80 ∧ (((gA u 3 x4.toNatClampNeg) < 1 → P_T_kindHere_40 post (fun zx1 zx3 zx4 zu => P_T_kindHere_5 post f zx1 zx3 zx4 zu) x1 x3 x4 u) ∧ (¬ (gA u 3 x4.toNatClampNeg) < 1 → (vp_in x4 80 ∧ ((4 < (gA u 3 x4.toNatClampNeg) → P_T_kindHere_40 post (fun zx1 zx3 zx4 zu => P_T_kindHere_5 post f zx1 zx3 zx4 zu) x1 x3 x4 u) ∧ (¬ 4 < (gA u 3 x4.toNatClampNeg) → P_T_kindHere_41 post (fun zx1 zx3 zx4 zu => P_T_kindHere_5 post f zx1 zx3 zx4 zu) x1 x3 x4 1 u))))))))
set_option maxHeartbeats 600000 in
set_option maxRecDepth 100000 in
theorem w_T_kindHere_5 (l : Launch) (D : va_G) (cs : Nat → ClassId) (Ev : (Nat → Prop) → State → Prop) (hE : xEok Ev) (adK adV : Nat → Nat) (fm : Option Nat) (X : xEv adK adV fm Ev) (o : Nat) (a : Nat → Nat) (d : Nat) (post : Int32 → MS → Prop) : ∀ (f : Nat) (x1 : Int64) (x3 : Int32) (x4 : Int32) (u : MS), P_T_kindHere_5 post  f x1 x3 x4 u → RR l D clX (tysX cs) Ev "DeckFront$Tape" b_T_kindHere 6 w_T_kindHere (rmD (d + 2)) (some .int) (wdS o a cs) (pI post) 0 0 0 0 5 [(0, .ref o), (1, .long x1), (3, .int x3), (4, .int x4)] [] u := by
  intro f
  induction f with
  | zero => intro x1 x3 x4 u h; exact h.elim
  | succ f ih =>
    intro x1 x3 x4 u h
    unfold P_T_kindHere_5 at h
    refine x_iload (x := x4) d_T_kindHere_5 rfl ?_
    refine x_aload_n (x := o) d_T_kindHere_7 rfl ?_
    refine x_get (v := .int (gI u 4)) f_T_25 (eS_o _ _ _ _) rfl d_T_kindHere_8 ?_
    refine x_icmp_ge (tgt := 88) d_T_kindHere_11 rfl (fun hc => ?_) (fun hc => ?_)
    · have h := h.1 hc
      refine x_iload_n (x := x3) d_T_kindHere_88 rfl ?_
      refine x_iret d_T_kindHere_89 ⟨_, rfl, ?_⟩
      exact h
    · have h := h.2 hc
      refine x_aload_n (x := o) d_T_kindHere_14 rfl ?_
      refine x_get (v := .ref (a 3)) f_T_22 (eS_o _ _ _ _) rfl d_T_kindHere_15 ?_
      refine x_iload (x := x4) d_T_kindHere_18 rfl ?_
      refine x_iald (t0 := 0) (eS_3 _ _ _ _) rfl h.1 d_T_kindHere_20 ?_
      have h := h.2
      refine x_iconst (v := 1) d_T_kindHere_21 (by decide) ?_
      refine x_icmp_lt (tgt := 40) d_T_kindHere_22 rfl (fun hc => ?_) (fun hc => ?_)
      · have h := h.1 hc
        exact w_T_kindHere_40 l D cs Ev hE adK adV fm X o a d post (fun zx1 zx3 zx4 zu => P_T_kindHere_5 post f zx1 zx3 zx4 zu) ih x1 x3 x4 u h
      · have h := h.2 hc
        refine x_aload_n (x := o) d_T_kindHere_25 rfl ?_
        refine x_get (v := .ref (a 3)) f_T_22 (eS_o _ _ _ _) rfl d_T_kindHere_26 ?_
        refine x_iload (x := x4) d_T_kindHere_29 rfl ?_
        refine x_iald (t0 := 0) (eS_3 _ _ _ _) rfl h.1 d_T_kindHere_31 ?_
        have h := h.2
        refine x_iconst (v := 4) d_T_kindHere_32 (by decide) ?_
        refine x_icmp_gt (tgt := 40) d_T_kindHere_33 rfl (fun hc => ?_) (fun hc => ?_)
        · have h := h.1 hc
          exact w_T_kindHere_40 l D cs Ev hE adK adV fm X o a d post (fun zx1 zx3 zx4 zu => P_T_kindHere_5 post f zx1 zx3 zx4 zu) ih x1 x3 x4 u h
        · have h := h.2 hc
          refine x_iconst (v := 1) d_T_kindHere_36 (by decide) ?_
          refine x_goto (tgt := 41) d_T_kindHere_37 rfl ?_
          exact w_T_kindHere_41 l D cs Ev hE adK adV fm X o a d post (fun zx1 zx3 zx4 zu => P_T_kindHere_5 post f zx1 zx3 zx4 zu) ih x1 x3 x4 1 u h
def P_T_kindHere (post : Int32 → MS → Prop) (a0 : Int64) (u : MS) : Prop := (∃ g, P_T_kindHere_5 post g a0 0 0 u)
set_option maxHeartbeats 600000 in
set_option maxRecDepth 100000 in
theorem c_T_kindHere (l : Launch) (D : va_G) (cs : Nat → ClassId) (Ev : (Nat → Prop) → State → Prop) (hE : xEok Ev) (adK adV : Nat → Nat) (fm : Option Nat) (X : xEv adK adV fm Ev) (o : Nat) (a : Nat → Nat) (d : Nat) (post : Int32 → MS → Prop) (a0 : Int64) (u : MS) (h : P_T_kindHere post a0 u) : xC l D clX (tysX cs) Ev y_T_kindHere w_T_kindHere (rmD (d + 2)) (wdS o a cs) [.ref o, .long a0] u (pI post) 0 0 := by
  unfold P_T_kindHere at h
  refine xC.of (cc := b_T_kindHere) (nL := 6) (ret := (some .int)) (by decide) rfl (Nat.le_of_ble_eq_true rfl) ?_
  show RR l D clX (tysX cs) Ev "DeckFront$Tape" b_T_kindHere 6 w_T_kindHere (rmD (d + 2)) (some .int) (wdS o a cs) (pI post) 0 0 0 0 0 [(0, .ref o), (1, .long a0)] [] u
  refine x_iconst (v := 0) d_T_kindHere_0 (by decide) ?_
  refine x_istore_n (lv' := [(3, .int 0), (0, .ref o), (1, .long a0)]) d_T_kindHere_1 (by decide) rfl ?_
  refine x_iconst (v := 0) d_T_kindHere_2 (by decide) ?_
  refine x_istore (lv' := [(4, .int 0), (3, .int 0), (0, .ref o), (1, .long a0)]) d_T_kindHere_3 (by decide) rfl ?_
  refine x_sub [2, 3, 1, 0] rfl ?_
  obtain ⟨f9, h⟩ := h
  exact w_T_kindHere_5 l D cs Ev hE adK adV fm X o a d post  f9 a0 0 0 u h
def P_T_numberAt_4 (post : Int32 → MS → Prop) : Nat → Int32 → Int32 → Int32 → MS → Prop
  | 0, _, _, _, _ => False
  | f + 1, x1, x2, x3, u => (((x1 + (5 : Int32)) ≤ x3 → post x2 u) ∧ (¬ (x1 + (5 : Int32)) ≤ x3 → (((gI u 4) ≤ x3 → post x2 u) ∧ (¬ (gI u 4) ≤ x3 → (vp_in x3 80 ∧ (((isDig (gA u 0 x3.toNatClampNeg)) = 0 → post x2 u) ∧ (¬ (isDig (gA u 0 x3.toNatClampNeg)) = 0 → (vp_in x3 80 ∧ (∀ v1, v1 = (((x2 * (10 : Int32)) + (gA u 0 x3.toNatClampNeg)) - (48 : Int32)) → P_T_numberAt_4 post f x1 v1 (x3 + 1) u)))))))))
set_option maxHeartbeats 600000 in
set_option maxRecDepth 100000 in
theorem w_T_numberAt_4 (l : Launch) (D : va_G) (cs : Nat → ClassId) (Ev : (Nat → Prop) → State → Prop) (hE : xEok Ev) (adK adV : Nat → Nat) (fm : Option Nat) (X : xEv adK adV fm Ev) (o : Nat) (a : Nat → Nat) (d : Nat) (post : Int32 → MS → Prop) : ∀ (f : Nat) (x1 : Int32) (x2 : Int32) (x3 : Int32) (u : MS), P_T_numberAt_4 post  f x1 x2 x3 u → RR l D clX (tysX cs) Ev "DeckFront$Tape" b_T_numberAt 4 w_T_numberAt (rmD (d + 1)) (some .int) (wdS o a cs) (pI post) 0 0 0 0 4 [(0, .ref o), (1, .int x1), (2, .int x2), (3, .int x3)] [] u := by
  intro f
  induction f with
  | zero => intro x1 x2 x3 u h; exact h.elim
  | succ f ih =>
    intro x1 x2 x3 u h
    unfold P_T_numberAt_4 at h
    refine x_iload_n (x := x3) d_T_numberAt_4 rfl ?_
    refine x_iload_n (x := x1) d_T_numberAt_5 rfl ?_
    refine x_iconst (v := 5) d_T_numberAt_6 (by decide) ?_
    refine x_iadd d_T_numberAt_7 ?_
    refine x_icmp_ge (tgt := 52) d_T_numberAt_8 rfl (fun hc => ?_) (fun hc => ?_)
    · have h := h.1 hc
      refine x_iload_n (x := x2) d_T_numberAt_52 rfl ?_
      refine x_iret d_T_numberAt_53 ⟨_, rfl, ?_⟩
      exact h
    · have h := h.2 hc
      refine x_iload_n (x := x3) d_T_numberAt_11 rfl ?_
      refine x_aload_n (x := o) d_T_numberAt_12 rfl ?_
      refine x_get (v := .int (gI u 4)) f_T_25 (eS_o _ _ _ _) rfl d_T_numberAt_13 ?_
      refine x_icmp_ge (tgt := 52) d_T_numberAt_16 rfl (fun hc => ?_) (fun hc => ?_)
      · have h := h.1 hc
        refine x_iload_n (x := x2) d_T_numberAt_52 rfl ?_
        refine x_iret d_T_numberAt_53 ⟨_, rfl, ?_⟩
        exact h
      · have h := h.2 hc
        refine x_aload_n (x := o) d_T_numberAt_19 rfl ?_
        refine x_get (v := .ref (a 0)) f_T_9 (eS_o _ _ _ _) rfl d_T_numberAt_20 ?_
        refine x_iload_n (x := x3) d_T_numberAt_23 rfl ?_
        refine x_cald (t0 := 1) (eS_0 _ _ _ _) rfl h.1 d_T_numberAt_24 ?_
        have h := h.2
        refine x_callSN (st := []) (k_T_59 X) x_none (cf_D_isDigit l D cs Ev hE adK adV fm X (d + 0) (gA u 0 x3.toNatClampNeg)) hE (rmD_ok (by omega) (by decide)) rfl (Nat.le_of_ble_eq_true rfl) rfl d_T_numberAt_25 (x_rI (fun x u1 h9 => ?_))
        obtain ⟨rfl, rfl⟩ := h9
        refine x_if_eq (tgt := 52) d_T_numberAt_28 rfl (fun hc => ?_) (fun hc => ?_)
        · have h := h.1 hc
          refine x_iload_n (x := x2) d_T_numberAt_52 rfl ?_
          refine x_iret d_T_numberAt_53 ⟨_, rfl, ?_⟩
          exact h
        · have h := h.2 hc
          refine x_iload_n (x := x2) d_T_numberAt_31 rfl ?_
          refine x_bipush (v := 10) d_T_numberAt_32 (by decide) ?_
          refine x_imul d_T_numberAt_34 ?_
          refine x_aload_n (x := o) d_T_numberAt_35 rfl ?_
          refine x_get (v := .ref (a 0)) f_T_9 (eS_o _ _ _ _) rfl d_T_numberAt_36 ?_
          refine x_iload_n (x := x3) d_T_numberAt_39 rfl ?_
          refine x_cald (t0 := 1) (eS_0 _ _ _ _) rfl h.1 d_T_numberAt_40 ?_
          have h := h.2
          refine x_iadd d_T_numberAt_41 ?_
          refine x_bipush (v := 48) d_T_numberAt_42 (by decide) ?_
          refine x_isub d_T_numberAt_44 ?_
          refine x_topI (fun v1 ev1 => ?_)
          have h := h v1 ev1
          refine x_istore_n (lv' := [(2, .int v1), (0, .ref o), (1, .int x1), (3, .int x3)]) d_T_numberAt_45 (by decide) rfl ?_
          refine x_iinc (v := x3 + 1) (lv' := [(3, .int (x3 + 1)), (2, .int v1), (0, .ref o), (1, .int x1)]) d_T_numberAt_46 rfl rfl (by decide) rfl ?_
          refine x_goto (tgt := 4) d_T_numberAt_49 rfl ?_
          refine x_sub [2, 3, 1, 0] rfl ?_
          exact ih x1 v1 (x3 + 1) u h
def P_T_numberAt (post : Int32 → MS → Prop) (a0 : Int32) (u : MS) : Prop := (∃ g, P_T_numberAt_4 post g a0 0 a0 u)
set_option maxHeartbeats 600000 in
set_option maxRecDepth 100000 in
theorem c_T_numberAt (l : Launch) (D : va_G) (cs : Nat → ClassId) (Ev : (Nat → Prop) → State → Prop) (hE : xEok Ev) (adK adV : Nat → Nat) (fm : Option Nat) (X : xEv adK adV fm Ev) (o : Nat) (a : Nat → Nat) (d : Nat) (post : Int32 → MS → Prop) (a0 : Int32) (u : MS) (h : P_T_numberAt post a0 u) : xC l D clX (tysX cs) Ev y_T_numberAt w_T_numberAt (rmD (d + 1)) (wdS o a cs) [.ref o, .int a0] u (pI post) 0 0 := by
  unfold P_T_numberAt at h
  refine xC.of (cc := b_T_numberAt) (nL := 4) (ret := (some .int)) (by decide) rfl (Nat.le_of_ble_eq_true rfl) ?_
  show RR l D clX (tysX cs) Ev "DeckFront$Tape" b_T_numberAt 4 w_T_numberAt (rmD (d + 1)) (some .int) (wdS o a cs) (pI post) 0 0 0 0 0 [(0, .ref o), (1, .int a0)] [] u
  refine x_iconst (v := 0) d_T_numberAt_0 (by decide) ?_
  refine x_istore_n (lv' := [(2, .int 0), (0, .ref o), (1, .int a0)]) d_T_numberAt_1 (by decide) rfl ?_
  refine x_iload_n (x := a0) d_T_numberAt_2 rfl ?_
  refine x_istore_n (lv' := [(3, .int a0), (2, .int 0), (0, .ref o), (1, .int a0)]) d_T_numberAt_3 (by decide) rfl ?_
  refine x_sub [2, 3, 1, 0] rfl ?_
  obtain ⟨f9, h⟩ := h
  exact w_T_numberAt_4 l D cs Ev hE adK adV fm X o a d post  f9 a0 0 a0 u h
end

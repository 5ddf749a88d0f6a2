section
-- ===== PART A: goes FIRST, ahead of the names: the tables' words, and 'selects' of the private methods out of them =====
/-- a private method of a class that the tables say can be made, by its rows of tables_1 -/
def lw_okq (q : MethodName × Nat) : Prop := (q.1.cls ≠ "java/lang/invoke/MethodHandle" ∧ q.1.cls ≠ "java/lang/invoke/VarHandle") ∧ Cond.instantiable q.1.cls q.2 ∈ tables_1 ∧ Cond.privateMethod q.1 ∈ tables_1 ∧ Cond.instanceMethod q.1 ∈ tables_1
theorem lw_p0 : lw_okq (⟨"DeckFront$Structure", "faultOf", "(LDeckFront$Deck;I)I"⟩, 4) := ⟨⟨by decide +kernel, by decide +kernel⟩, List.mem_of_getElem? (i := 117) (by decide +kernel), List.mem_of_getElem? (i := 334) (by decide +kernel), List.mem_of_getElem? (i := 335) (by decide +kernel)⟩
theorem lw_p1 : lw_okq (⟨"DeckFront$Structure", "branchFits", "(LDeckFront$Statement;)Z"⟩, 4) := ⟨⟨by decide +kernel, by decide +kernel⟩, List.mem_of_getElem? (i := 117) (by decide +kernel), List.mem_of_getElem? (i := 350) (by decide +kernel), List.mem_of_getElem? (i := 351) (by decide +kernel)⟩
theorem lw_p2 : lw_okq (⟨"DeckFront$Structure", "innermost", "()I"⟩, 4) := ⟨⟨by decide +kernel, by decide +kernel⟩, List.mem_of_getElem? (i := 117) (by decide +kernel), List.mem_of_getElem? (i := 354) (by decide +kernel), List.mem_of_getElem? (i := 355) (by decide +kernel)⟩
theorem lw_p3 : lw_okq (⟨"DeckFront$Structure", "isOpen", "(I)Z"⟩, 4) := ⟨⟨by decide +kernel, by decide +kernel⟩, List.mem_of_getElem? (i := 117) (by decide +kernel), List.mem_of_getElem? (i := 358) (by decide +kernel), List.mem_of_getElem? (i := 359) (by decide +kernel)⟩
theorem lw_p4 : lw_okq (⟨"DeckFront$Structure", "endWhatEnds", "(LDeckFront$Statement;)V"⟩, 4) := ⟨⟨by decide +kernel, by decide +kernel⟩, List.mem_of_getElem? (i := 117) (by decide +kernel), List.mem_of_getElem? (i := 367) (by decide +kernel), List.mem_of_getElem? (i := 368) (by decide +kernel)⟩
theorem lw_p5 : lw_okq (⟨"DeckFront$Structure", "hasItsLabels", "(LDeckFront$Deck;I)Z"⟩, 4) := ⟨⟨by decide +kernel, by decide +kernel⟩, List.mem_of_getElem? (i := 117) (by decide +kernel), List.mem_of_getElem? (i := 371) (by decide +kernel), List.mem_of_getElem? (i := 372) (by decide +kernel)⟩
theorem lw_p6 : lw_okq (⟨"DeckFront$Structure", "openWhatOpens", "(LDeckFront$Statement;)V"⟩, 4) := ⟨⟨by decide +kernel, by decide +kernel⟩, List.mem_of_getElem? (i := 117) (by decide +kernel), List.mem_of_getElem? (i := 386) (by decide +kernel), List.mem_of_getElem? (i := 387) (by decide +kernel)⟩
theorem lw_p7 : lw_okq (⟨"DeckFront$Deck", "carryOn", "(LDeckFront$Card;)I"⟩, 2) := ⟨⟨by decide +kernel, by decide +kernel⟩, List.mem_of_getElem? (i := 45) (by decide +kernel), List.mem_of_getElem? (i := 424) (by decide +kernel), List.mem_of_getElem? (i := 425) (by decide +kernel)⟩
theorem lw_p8 : lw_okq (⟨"DeckFront$Deck", "begin", "(LDeckFront$Card;)I"⟩, 2) := ⟨⟨by decide +kernel, by decide +kernel⟩, List.mem_of_getElem? (i := 45) (by decide +kernel), List.mem_of_getElem? (i := 435) (by decide +kernel), List.mem_of_getElem? (i := 436) (by decide +kernel)⟩
theorem lw_p9 : lw_okq (⟨"java/lang/Throwable", "fillInStackTrace", "(I)Ljava/lang/Throwable;"⟩, 6) := ⟨⟨by decide +kernel, by decide +kernel⟩, List.mem_of_getElem? (i := 486) (by decide +kernel), List.mem_of_getElem? (i := 484) (by decide +kernel), List.mem_of_getElem? (i := 485) (by decide +kernel)⟩
theorem lw_p10 : lw_okq (⟨"DeckFront$Statement", "firstThatFits", "(I)I"⟩, 9) := ⟨⟨by decide +kernel, by decide +kernel⟩, List.mem_of_getElem? (i := 52) (by decide +kernel), List.mem_of_getElem? (i := 535) (by decide +kernel), List.mem_of_getElem? (i := 536) (by decide +kernel)⟩
theorem lw_p11 : lw_okq (⟨"DeckFront$Statement", "fits", "(I)Z"⟩, 9) := ⟨⟨by decide +kernel, by decide +kernel⟩, List.mem_of_getElem? (i := 52) (by decide +kernel), List.mem_of_getElem? (i := 545) (by decide +kernel), List.mem_of_getElem? (i := 546) (by decide +kernel)⟩
theorem lw_p12 : lw_okq (⟨"DeckFront$Statement", "expression", "(II)Z"⟩, 9) := ⟨⟨by decide +kernel, by decide +kernel⟩, List.mem_of_getElem? (i := 52) (by decide +kernel), List.mem_of_getElem? (i := 606) (by decide +kernel), List.mem_of_getElem? (i := 607) (by decide +kernel)⟩
theorem lw_p13 : lw_okq (⟨"DeckFront$Statement", "power", "(I)Z"⟩, 9) := ⟨⟨by decide +kernel, by decide +kernel⟩, List.mem_of_getElem? (i := 52) (by decide +kernel), List.mem_of_getElem? (i := 610) (by decide +kernel), List.mem_of_getElem? (i := 611) (by decide +kernel)⟩
theorem lw_p14 : lw_okq (⟨"DeckFront$Statement", "primary", "(I)Z"⟩, 9) := ⟨⟨by decide +kernel, by decide +kernel⟩, List.mem_of_getElem? (i := 52) (by decide +kernel), List.mem_of_getElem? (i := 614) (by decide +kernel), List.mem_of_getElem? (i := 615) (by decide +kernel)⟩
theorem lw_p15 : lw_okq (⟨"DeckFront$Statement", "group", "(I)Z"⟩, 9) := ⟨⟨by decide +kernel, by decide +kernel⟩, List.mem_of_getElem? (i := 52) (by decide +kernel), List.mem_of_getElem? (i := 664) (by decide +kernel), List.mem_of_getElem? (i := 665) (by decide +kernel)⟩
def lw_privs_1 : List (MethodName × Nat) := [(⟨"DeckFront$Structure", "faultOf", "(LDeckFront$Deck;I)I"⟩, 4), (⟨"DeckFront$Structure", "branchFits", "(LDeckFront$Statement;)Z"⟩, 4), (⟨"DeckFront$Structure", "innermost", "()I"⟩, 4), (⟨"DeckFront$Structure", "isOpen", "(I)Z"⟩, 4), (⟨"DeckFront$Structure", "endWhatEnds", "(LDeckFront$Statement;)V"⟩, 4), (⟨"DeckFront$Structure", "hasItsLabels", "(LDeckFront$Deck;I)Z"⟩, 4), (⟨"DeckFront$Structure", "openWhatOpens", "(LDeckFront$Statement;)V"⟩, 4), (⟨"DeckFront$Deck", "carryOn", "(LDeckFront$Card;)I"⟩, 2), (⟨"DeckFront$Deck", "begin", "(LDeckFront$Card;)I"⟩, 2), (⟨"java/lang/Throwable", "fillInStackTrace", "(I)Ljava/lang/Throwable;"⟩, 6), (⟨"DeckFront$Statement", "firstThatFits", "(I)I"⟩, 9), (⟨"DeckFront$Statement", "fits", "(I)Z"⟩, 9), (⟨"DeckFront$Statement", "expression", "(II)Z"⟩, 9), (⟨"DeckFront$Statement", "power", "(I)Z"⟩, 9), (⟨"DeckFront$Statement", "primary", "(I)Z"⟩, 9), (⟨"DeckFront$Statement", "group", "(I)Z"⟩, 9)]
theorem lw_r1 : ∀ q ∈ lw_privs_1, lw_okq q := List.forall_mem_cons.mpr ⟨lw_p0, List.forall_mem_cons.mpr ⟨lw_p1, List.forall_mem_cons.mpr ⟨lw_p2, List.forall_mem_cons.mpr ⟨lw_p3, List.forall_mem_cons.mpr ⟨lw_p4, List.forall_mem_cons.mpr ⟨lw_p5, List.forall_mem_cons.mpr ⟨lw_p6, List.forall_mem_cons.mpr ⟨lw_p7, List.forall_mem_cons.mpr ⟨lw_p8, List.forall_mem_cons.mpr ⟨lw_p9, List.forall_mem_cons.mpr ⟨lw_p10, List.forall_mem_cons.mpr ⟨lw_p11, List.forall_mem_cons.mpr ⟨lw_p12, List.forall_mem_cons.mpr ⟨lw_p13, List.forall_mem_cons.mpr ⟨lw_p14, List.forall_mem_cons.mpr ⟨lw_p15, fun _ h => absurd h List.not_mem_nil⟩⟩⟩⟩⟩⟩⟩⟩⟩⟩⟩⟩⟩⟩⟩⟩
theorem lw_p16 : lw_okq (⟨"DeckFront$Statement", "reference", "(IZ)Z"⟩, 9) := ⟨⟨by decide +kernel, by decide +kernel⟩, List.mem_of_getElem? (i := 52) (by decide +kernel), List.mem_of_getElem? (i := 668) (by decide +kernel), List.mem_of_getElem? (i := 669) (by decide +kernel)⟩
theorem lw_p17 : lw_okq (⟨"DeckFront$Statement", "list", "(I)Z"⟩, 9) := ⟨⟨by decide +kernel, by decide +kernel⟩, List.mem_of_getElem? (i := 52) (by decide +kernel), List.mem_of_getElem? (i := 673) (by decide +kernel), List.mem_of_getElem? (i := 674) (by decide +kernel)⟩
theorem lw_p18 : lw_okq (⟨"DeckFront$Statement", "expressions", "(I)Z"⟩, 9) := ⟨⟨by decide +kernel, by decide +kernel⟩, List.mem_of_getElem? (i := 52) (by decide +kernel), List.mem_of_getElem? (i := 678) (by decide +kernel), List.mem_of_getElem? (i := 679) (by decide +kernel)⟩
theorem lw_p19 : lw_okq (⟨"DeckFront$Statement", "takeSignsBefore", "(I)I"⟩, 9) := ⟨⟨by decide +kernel, by decide +kernel⟩, List.mem_of_getElem? (i := 52) (by decide +kernel), List.mem_of_getElem? (i := 691) (by decide +kernel), List.mem_of_getElem? (i := 692) (by decide +kernel)⟩
theorem lw_p20 : lw_okq (⟨"DeckFront$Statement", "takeSignBetween", "(I)Z"⟩, 9) := ⟨⟨by decide +kernel, by decide +kernel⟩, List.mem_of_getElem? (i := 52) (by decide +kernel), List.mem_of_getElem? (i := 700) (by decide +kernel), List.mem_of_getElem? (i := 701) (by decide +kernel)⟩
theorem lw_p21 : lw_okq (⟨"DeckFront$Statement", "series", "(I)Z"⟩, 9) := ⟨⟨by decide +kernel, by decide +kernel⟩, List.mem_of_getElem? (i := 52) (by decide +kernel), List.mem_of_getElem? (i := 731) (by decide +kernel), List.mem_of_getElem? (i := 732) (by decide +kernel)⟩
theorem lw_p22 : lw_okq (⟨"DeckFront$Statement", "item", "(I)Z"⟩, 9) := ⟨⟨by decide +kernel, by decide +kernel⟩, List.mem_of_getElem? (i := 52) (by decide +kernel), List.mem_of_getElem? (i := 735) (by decide +kernel), List.mem_of_getElem? (i := 736) (by decide +kernel)⟩
theorem lw_p23 : lw_okq (⟨"DeckFrontModel", "isComment", "()Z"⟩, 36) := ⟨⟨by decide +kernel, by decide +kernel⟩, List.mem_of_getElem? (i := 744) (by decide +kernel), List.mem_of_getElem? (i := 882) (by decide +kernel), List.mem_of_getElem? (i := 883) (by decide +kernel)⟩
theorem lw_p24 : lw_okq (⟨"DeckFrontModel", "joined", "(I)I"⟩, 36) := ⟨⟨by decide +kernel, by decide +kernel⟩, List.mem_of_getElem? (i := 744) (by decide +kernel), List.mem_of_getElem? (i := 886) (by decide +kernel), List.mem_of_getElem? (i := 887) (by decide +kernel)⟩
theorem lw_p25 : lw_okq (⟨"DeckFrontModel", "inQuote", "(I)Z"⟩, 36) := ⟨⟨by decide +kernel, by decide +kernel⟩, List.mem_of_getElem? (i := 744) (by decide +kernel), List.mem_of_getElem? (i := 890) (by decide +kernel), List.mem_of_getElem? (i := 891) (by decide +kernel)⟩
theorem lw_p26 : lw_okq (⟨"DeckFrontModel", "there", "(I)Z"⟩, 36) := ⟨⟨by decide +kernel, by decide +kernel⟩, List.mem_of_getElem? (i := 744) (by decide +kernel), List.mem_of_getElem? (i := 906) (by decide +kernel), List.mem_of_getElem? (i := 907) (by decide +kernel)⟩
theorem lw_p27 : lw_okq (⟨"DeckFrontModel", "read", "(I)I"⟩, 36) := ⟨⟨by decide +kernel, by decide +kernel⟩, List.mem_of_getElem? (i := 744) (by decide +kernel), List.mem_of_getElem? (i := 914) (by decide +kernel), List.mem_of_getElem? (i := 915) (by decide +kernel)⟩
theorem lw_p28 : lw_okq (⟨"DeckFrontModel", "isIf", "()Z"⟩, 36) := ⟨⟨by decide +kernel, by decide +kernel⟩, List.mem_of_getElem? (i := 744) (by decide +kernel), List.mem_of_getElem? (i := 918) (by decide +kernel), List.mem_of_getElem? (i := 919) (by decide +kernel)⟩
theorem lw_p29 : lw_okq (⟨"DeckFrontModel", "word", "(J)Z"⟩, 36) := ⟨⟨by decide +kernel, by decide +kernel⟩, List.mem_of_getElem? (i := 744) (by decide +kernel), List.mem_of_getElem? (i := 923) (by decide +kernel), List.mem_of_getElem? (i := 924) (by decide +kernel)⟩
theorem lw_p30 : lw_okq (⟨"DeckFrontModel", "at", "(I)I"⟩, 36) := ⟨⟨by decide +kernel, by decide +kernel⟩, List.mem_of_getElem? (i := 744) (by decide +kernel), List.mem_of_getElem? (i := 927) (by decide +kernel), List.mem_of_getElem? (i := 928) (by decide +kernel)⟩
theorem lw_p31 : lw_okq (⟨"DeckFrontModel", "putPart", "(II)V"⟩, 36) := ⟨⟨by decide +kernel, by decide +kernel⟩, List.mem_of_getElem? (i := 744) (by decide +kernel), List.mem_of_getElem? (i := 932) (by decide +kernel), List.mem_of_getElem? (i := 933) (by decide +kernel)⟩
def lw_privs_2 : List (MethodName × Nat) := [(⟨"DeckFront$Statement", "reference", "(IZ)Z"⟩, 9), (⟨"DeckFront$Statement", "list", "(I)Z"⟩, 9), (⟨"DeckFront$Statement", "expressions", "(I)Z"⟩, 9), (⟨"DeckFront$Statement", "takeSignsBefore", "(I)I"⟩, 9), (⟨"DeckFront$Statement", "takeSignBetween", "(I)Z"⟩, 9), (⟨"DeckFront$Statement", "series", "(I)Z"⟩, 9), (⟨"DeckFront$Statement", "item", "(I)Z"⟩, 9), (⟨"DeckFrontModel", "isComment", "()Z"⟩, 36), (⟨"DeckFrontModel", "joined", "(I)I"⟩, 36), (⟨"DeckFrontModel", "inQuote", "(I)Z"⟩, 36), (⟨"DeckFrontModel", "there", "(I)Z"⟩, 36), (⟨"DeckFrontModel", "read", "(I)I"⟩, 36), (⟨"DeckFrontModel", "isIf", "()Z"⟩, 36), (⟨"DeckFrontModel", "word", "(J)Z"⟩, 36), (⟨"DeckFrontModel", "at", "(I)I"⟩, 36), (⟨"DeckFrontModel", "putPart", "(II)V"⟩, 36)]
theorem lw_r2 : ∀ q ∈ lw_privs_2, lw_okq q := List.forall_mem_cons.mpr ⟨lw_p16, List.forall_mem_cons.mpr ⟨lw_p17, List.forall_mem_cons.mpr ⟨lw_p18, List.forall_mem_cons.mpr ⟨lw_p19, List.forall_mem_cons.mpr ⟨lw_p20, List.forall_mem_cons.mpr ⟨lw_p21, List.forall_mem_cons.mpr ⟨lw_p22, List.forall_mem_cons.mpr ⟨lw_p23, List.forall_mem_cons.mpr ⟨lw_p24, List.forall_mem_cons.mpr ⟨lw_p25, List.forall_mem_cons.mpr ⟨lw_p26, List.forall_mem_cons.mpr ⟨lw_p27, List.forall_mem_cons.mpr ⟨lw_p28, List.forall_mem_cons.mpr ⟨lw_p29, List.forall_mem_cons.mpr ⟨lw_p30, List.forall_mem_cons.mpr ⟨lw_p31, fun _ h => absurd h List.not_mem_nil⟩⟩⟩⟩⟩⟩⟩⟩⟩⟩⟩⟩⟩⟩⟩⟩
theorem lw_p32 : lw_okq (⟨"DeckFrontModel", "put", "(I)V"⟩, 36) := ⟨⟨by decide +kernel, by decide +kernel⟩, List.mem_of_getElem? (i := 744) (by decide +kernel), List.mem_of_getElem? (i := 936) (by decide +kernel), List.mem_of_getElem? (i := 937) (by decide +kernel)⟩
theorem lw_p33 : lw_okq (⟨"DeckFrontModel", "expression", "(I)Z"⟩, 36) := ⟨⟨by decide +kernel, by decide +kernel⟩, List.mem_of_getElem? (i := 744) (by decide +kernel), List.mem_of_getElem? (i := 940) (by decide +kernel), List.mem_of_getElem? (i := 941) (by decide +kernel)⟩
theorem lw_p34 : lw_okq (⟨"DeckFrontModel", "wanted", "(II)I"⟩, 36) := ⟨⟨by decide +kernel, by decide +kernel⟩, List.mem_of_getElem? (i := 744) (by decide +kernel), List.mem_of_getElem? (i := 944) (by decide +kernel), List.mem_of_getElem? (i := 945) (by decide +kernel)⟩
theorem lw_p35 : lw_okq (⟨"DeckFrontModel", "numberEnd", "(I)I"⟩, 36) := ⟨⟨by decide +kernel, by decide +kernel⟩, List.mem_of_getElem? (i := 744) (by decide +kernel), List.mem_of_getElem? (i := 948) (by decide +kernel), List.mem_of_getElem? (i := 949) (by decide +kernel)⟩
theorem lw_p36 : lw_okq (⟨"DeckFrontModel", "dots", "(I)I"⟩, 36) := ⟨⟨by decide +kernel, by decide +kernel⟩, List.mem_of_getElem? (i := 744) (by decide +kernel), List.mem_of_getElem? (i := 952) (by decide +kernel), List.mem_of_getElem? (i := 953) (by decide +kernel)⟩
theorem lw_p37 : lw_okq (⟨"DeckFrontModel", "nameEnd", "(I)I"⟩, 36) := ⟨⟨by decide +kernel, by decide +kernel⟩, List.mem_of_getElem? (i := 744) (by decide +kernel), List.mem_of_getElem? (i := 967) (by decide +kernel), List.mem_of_getElem? (i := 968) (by decide +kernel)⟩
theorem lw_p38 : lw_okq (⟨"DeckFrontModel", "part", "(IIIII)I"⟩, 36) := ⟨⟨by decide +kernel, by decide +kernel⟩, List.mem_of_getElem? (i := 744) (by decide +kernel), List.mem_of_getElem? (i := 971) (by decide +kernel), List.mem_of_getElem? (i := 972) (by decide +kernel)⟩
theorem lw_p39 : lw_okq (⟨"DeckFrontModel", "value", "(I)V"⟩, 36) := ⟨⟨by decide +kernel, by decide +kernel⟩, List.mem_of_getElem? (i := 744) (by decide +kernel), List.mem_of_getElem? (i := 975) (by decide +kernel), List.mem_of_getElem? (i := 976) (by decide +kernel)⟩
theorem lw_p40 : lw_okq (⟨"DeckFrontModel", "use", "(IIII)V"⟩, 36) := ⟨⟨by decide +kernel, by decide +kernel⟩, List.mem_of_getElem? (i := 744) (by decide +kernel), List.mem_of_getElem? (i := 979) (by decide +kernel), List.mem_of_getElem? (i := 980) (by decide +kernel)⟩
theorem lw_p41 : lw_okq (⟨"DeckFrontModel", "push", "(IIIZ)V"⟩, 36) := ⟨⟨by decide +kernel, by decide +kernel⟩, List.mem_of_getElem? (i := 744) (by decide +kernel), List.mem_of_getElem? (i := 983) (by decide +kernel), List.mem_of_getElem? (i := 984) (by decide +kernel)⟩
theorem lw_p42 : lw_okq (⟨"DeckFrontModel", "dotted", "(I)I"⟩, 36) := ⟨⟨by decide +kernel, by decide +kernel⟩, List.mem_of_getElem? (i := 744) (by decide +kernel), List.mem_of_getElem? (i := 987) (by decide +kernel), List.mem_of_getElem? (i := 988) (by decide +kernel)⟩
theorem lw_p43 : lw_okq (⟨"DeckFrontModel", "between", "()I"⟩, 36) := ⟨⟨by decide +kernel, by decide +kernel⟩, List.mem_of_getElem? (i := 744) (by decide +kernel), List.mem_of_getElem? (i := 991) (by decide +kernel), List.mem_of_getElem? (i := 992) (by decide +kernel)⟩
theorem lw_p44 : lw_okq (⟨"DeckFrontModel", "related", "()Z"⟩, 36) := ⟨⟨by decide +kernel, by decide +kernel⟩, List.mem_of_getElem? (i := 744) (by decide +kernel), List.mem_of_getElem? (i := 995) (by decide +kernel), List.mem_of_getElem? (i := 996) (by decide +kernel)⟩
theorem lw_p45 : lw_okq (⟨"DeckFrontModel", "reduce", "(I)V"⟩, 36) := ⟨⟨by decide +kernel, by decide +kernel⟩, List.mem_of_getElem? (i := 744) (by decide +kernel), List.mem_of_getElem? (i := 999) (by decide +kernel), List.mem_of_getElem? (i := 1000) (by decide +kernel)⟩
theorem lw_p46 : lw_okq (⟨"DeckFrontModel", "print", "(I)V"⟩, 36) := ⟨⟨by decide +kernel, by decide +kernel⟩, List.mem_of_getElem? (i := 744) (by decide +kernel), List.mem_of_getElem? (i := 1003) (by decide +kernel), List.mem_of_getElem? (i := 1004) (by decide +kernel)⟩
theorem lw_p47 : lw_okq (⟨"DeckFrontModel", "joins", "()V"⟩, 36) := ⟨⟨by decide +kernel, by decide +kernel⟩, List.mem_of_getElem? (i := 744) (by decide +kernel), List.mem_of_getElem? (i := 1007) (by decide +kernel), List.mem_of_getElem? (i := 1008) (by decide +kernel)⟩
def lw_privs_3 : List (MethodName × Nat) := [(⟨"DeckFrontModel", "put", "(I)V"⟩, 36), (⟨"DeckFrontModel", "expression", "(I)Z"⟩, 36), (⟨"DeckFrontModel", "wanted", "(II)I"⟩, 36), (⟨"DeckFrontModel", "numberEnd", "(I)I"⟩, 36), (⟨"DeckFrontModel", "dots", "(I)I"⟩, 36), (⟨"DeckFrontModel", "nameEnd", "(I)I"⟩, 36), (⟨"DeckFrontModel", "part", "(IIIII)I"⟩, 36), (⟨"DeckFrontModel", "value", "(I)V"⟩, 36), (⟨"DeckFrontModel", "use", "(IIII)V"⟩, 36), (⟨"DeckFrontModel", "push", "(IIIZ)V"⟩, 36), (⟨"DeckFrontModel", "dotted", "(I)I"⟩, 36), (⟨"DeckFrontModel", "between", "()I"⟩, 36), (⟨"DeckFrontModel", "related", "()Z"⟩, 36), (⟨"DeckFrontModel", "reduce", "(I)V"⟩, 36), (⟨"DeckFrontModel", "print", "(I)V"⟩, 36), (⟨"DeckFrontModel", "joins", "()V"⟩, 36)]
theorem lw_r3 : ∀ q ∈ lw_privs_3, lw_okq q := List.forall_mem_cons.mpr ⟨lw_p32, List.forall_mem_cons.mpr ⟨lw_p33, List.forall_mem_cons.mpr ⟨lw_p34, List.forall_mem_cons.mpr ⟨lw_p35, List.forall_mem_cons.mpr ⟨lw_p36, List.forall_mem_cons.mpr ⟨lw_p37, List.forall_mem_cons.mpr ⟨lw_p38, List.forall_mem_cons.mpr ⟨lw_p39, List.forall_mem_cons.mpr ⟨lw_p40, List.forall_mem_cons.mpr ⟨lw_p41, List.forall_mem_cons.mpr ⟨lw_p42, List.forall_mem_cons.mpr ⟨lw_p43, List.forall_mem_cons.mpr ⟨lw_p44, List.forall_mem_cons.mpr ⟨lw_p45, List.forall_mem_cons.mpr ⟨lw_p46, List.forall_mem_cons.mpr ⟨lw_p47, fun _ h => absurd h List.not_mem_nil⟩⟩⟩⟩⟩⟩⟩⟩⟩⟩⟩⟩⟩⟩⟩⟩
theorem lw_p48 : lw_okq (⟨"DeckFrontModel", "sign", "(I)Z"⟩, 36) := ⟨⟨by decide +kernel, by decide +kernel⟩, List.mem_of_getElem? (i := 744) (by decide +kernel), List.mem_of_getElem? (i := 1011) (by decide +kernel), List.mem_of_getElem? (i := 1012) (by decide +kernel)⟩
theorem lw_p49 : lw_okq (⟨"DeckFrontModel", "behind", "()I"⟩, 36) := ⟨⟨by decide +kernel, by decide +kernel⟩, List.mem_of_getElem? (i := 744) (by decide +kernel), List.mem_of_getElem? (i := 1015) (by decide +kernel), List.mem_of_getElem? (i := 1016) (by decide +kernel)⟩
theorem lw_p50 : lw_okq (⟨"DeckFrontModel", "simple", "(I)Z"⟩, 36) := ⟨⟨by decide +kernel, by decide +kernel⟩, List.mem_of_getElem? (i := 744) (by decide +kernel), List.mem_of_getElem? (i := 1019) (by decide +kernel), List.mem_of_getElem? (i := 1020) (by decide +kernel)⟩
theorem lw_p51 : lw_okq (⟨"DeckFrontModel", "isDo", "()Z"⟩, 36) := ⟨⟨by decide +kernel, by decide +kernel⟩, List.mem_of_getElem? (i := 744) (by decide +kernel), List.mem_of_getElem? (i := 1023) (by decide +kernel), List.mem_of_getElem? (i := 1024) (by decide +kernel)⟩
theorem lw_p52 : lw_okq (⟨"DeckFrontModel", "digits", "(I)I"⟩, 36) := ⟨⟨by decide +kernel, by decide +kernel⟩, List.mem_of_getElem? (i := 744) (by decide +kernel), List.mem_of_getElem? (i := 1028) (by decide +kernel), List.mem_of_getElem? (i := 1029) (by decide +kernel)⟩
theorem lw_p53 : lw_okq (⟨"DeckFrontModel", "comma", "()V"⟩, 36) := ⟨⟨by decide +kernel, by decide +kernel⟩, List.mem_of_getElem? (i := 744) (by decide +kernel), List.mem_of_getElem? (i := 1032) (by decide +kernel), List.mem_of_getElem? (i := 1033) (by decide +kernel)⟩
theorem lw_p54 : lw_okq (⟨"DeckFrontModel", "name", "(II)Z"⟩, 36) := ⟨⟨by decide +kernel, by decide +kernel⟩, List.mem_of_getElem? (i := 744) (by decide +kernel), List.mem_of_getElem? (i := 1036) (by decide +kernel), List.mem_of_getElem? (i := 1037) (by decide +kernel)⟩
theorem lw_p55 : lw_okq (⟨"DeckFrontModel", "isAssignment", "()Z"⟩, 36) := ⟨⟨by decide +kernel, by decide +kernel⟩, List.mem_of_getElem? (i := 744) (by decide +kernel), List.mem_of_getElem? (i := 1040) (by decide +kernel), List.mem_of_getElem? (i := 1041) (by decide +kernel)⟩
theorem lw_p56 : lw_okq (⟨"DeckFrontModel", "nameWithList", "(II)Z"⟩, 36) := ⟨⟨by decide +kernel, by decide +kernel⟩, List.mem_of_getElem? (i := 744) (by decide +kernel), List.mem_of_getElem? (i := 1044) (by decide +kernel), List.mem_of_getElem? (i := 1045) (by decide +kernel)⟩
theorem lw_p57 : lw_okq (⟨"DeckFrontModel", "expressions", "(I)Z"⟩, 36) := ⟨⟨by decide +kernel, by decide +kernel⟩, List.mem_of_getElem? (i := 744) (by decide +kernel), List.mem_of_getElem? (i := 1048) (by decide +kernel), List.mem_of_getElem? (i := 1049) (by decide +kernel)⟩
theorem lw_p58 : lw_okq (⟨"DeckFrontModel", "isThen", "(J)Z"⟩, 36) := ⟨⟨by decide +kernel, by decide +kernel⟩, List.mem_of_getElem? (i := 744) (by decide +kernel), List.mem_of_getElem? (i := 1052) (by decide +kernel), List.mem_of_getElem? (i := 1053) (by decide +kernel)⟩
theorem lw_p59 : lw_okq (⟨"DeckFrontModel", "alone", "(JI)Z"⟩, 36) := ⟨⟨by decide +kernel, by decide +kernel⟩, List.mem_of_getElem? (i := 744) (by decide +kernel), List.mem_of_getElem? (i := 1059) (by decide +kernel), List.mem_of_getElem? (i := 1060) (by decide +kernel)⟩
theorem lw_p60 : lw_okq (⟨"DeckFrontModel", "isGoTo", "()Z"⟩, 36) := ⟨⟨by decide +kernel, by decide +kernel⟩, List.mem_of_getElem? (i := 744) (by decide +kernel), List.mem_of_getElem? (i := 1065) (by decide +kernel), List.mem_of_getElem? (i := 1066) (by decide +kernel)⟩
theorem lw_p61 : lw_okq (⟨"DeckFrontModel", "isCall", "()Z"⟩, 36) := ⟨⟨by decide +kernel, by decide +kernel⟩, List.mem_of_getElem? (i := 744) (by decide +kernel), List.mem_of_getElem? (i := 1070) (by decide +kernel), List.mem_of_getElem? (i := 1071) (by decide +kernel)⟩
theorem lw_p62 : lw_okq (⟨"DeckFrontModel", "isType", "()Z"⟩, 36) := ⟨⟨by decide +kernel, by decide +kernel⟩, List.mem_of_getElem? (i := 744) (by decide +kernel), List.mem_of_getElem? (i := 1079) (by decide +kernel), List.mem_of_getElem? (i := 1080) (by decide +kernel)⟩
theorem lw_p63 : lw_okq (⟨"DeckFrontModel", "isDimension", "()Z"⟩, 36) := ⟨⟨by decide +kernel, by decide +kernel⟩, List.mem_of_getElem? (i := 744) (by decide +kernel), List.mem_of_getElem? (i := 1086) (by decide +kernel), List.mem_of_getElem? (i := 1087) (by decide +kernel)⟩
def lw_privs_4 : List (MethodName × Nat) := [(⟨"DeckFrontModel", "sign", "(I)Z"⟩, 36), (⟨"DeckFrontModel", "behind", "()I"⟩, 36), (⟨"DeckFrontModel", "simple", "(I)Z"⟩, 36), (⟨"DeckFrontModel", "isDo", "()Z"⟩, 36), (⟨"DeckFrontModel", "digits", "(I)I"⟩, 36), (⟨"DeckFrontModel", "comma", "()V"⟩, 36), (⟨"DeckFrontModel", "name", "(II)Z"⟩, 36), (⟨"DeckFrontModel", "isAssignment", "()Z"⟩, 36), (⟨"DeckFrontModel", "nameWithList", "(II)Z"⟩, 36), (⟨"DeckFrontModel", "expressions", "(I)Z"⟩, 36), (⟨"DeckFrontModel", "isThen", "(J)Z"⟩, 36), (⟨"DeckFrontModel", "alone", "(JI)Z"⟩, 36), (⟨"DeckFrontModel", "isGoTo", "()Z"⟩, 36), (⟨"DeckFrontModel", "isCall", "()Z"⟩, 36), (⟨"DeckFrontModel", "isType", "()Z"⟩, 36), (⟨"DeckFrontModel", "isDimension", "()Z"⟩, 36)]
theorem lw_r4 : ∀ q ∈ lw_privs_4, lw_okq q := List.forall_mem_cons.mpr ⟨lw_p48, List.forall_mem_cons.mpr ⟨lw_p49, List.forall_mem_cons.mpr ⟨lw_p50, List.forall_mem_cons.mpr ⟨lw_p51, List.forall_mem_cons.mpr ⟨lw_p52, List.forall_mem_cons.mpr ⟨lw_p53, List.forall_mem_cons.mpr ⟨lw_p54, List.forall_mem_cons.mpr ⟨lw_p55, List.forall_mem_cons.mpr ⟨lw_p56, List.forall_mem_cons.mpr ⟨lw_p57, List.forall_mem_cons.mpr ⟨lw_p58, List.forall_mem_cons.mpr ⟨lw_p59, List.forall_mem_cons.mpr ⟨lw_p60, List.forall_mem_cons.mpr ⟨lw_p61, List.forall_mem_cons.mpr ⟨lw_p62, List.forall_mem_cons.mpr ⟨lw_p63, fun _ h => absurd h List.not_mem_nil⟩⟩⟩⟩⟩⟩⟩⟩⟩⟩⟩⟩⟩⟩⟩⟩
theorem lw_p64 : lw_okq (⟨"DeckFrontModel", "isComputed", "()Z"⟩, 36) := ⟨⟨by decide +kernel, by decide +kernel⟩, List.mem_of_getElem? (i := 744) (by decide +kernel), List.mem_of_getElem? (i := 1091) (by decide +kernel), List.mem_of_getElem? (i := 1092) (by decide +kernel)⟩
theorem lw_p65 : lw_okq (⟨"DeckFrontModel", "firstFault", "()I"⟩, 36) := ⟨⟨by decide +kernel, by decide +kernel⟩, List.mem_of_getElem? (i := 744) (by decide +kernel), List.mem_of_getElem? (i := 1119) (by decide +kernel), List.mem_of_getElem? (i := 1120) (by decide +kernel)⟩
theorem lw_p66 : lw_okq (⟨"DeckFrontModel", "early", "(IIZ)I"⟩, 36) := ⟨⟨by decide +kernel, by decide +kernel⟩, List.mem_of_getElem? (i := 744) (by decide +kernel), List.mem_of_getElem? (i := 1123) (by decide +kernel), List.mem_of_getElem? (i := 1124) (by decide +kernel)⟩
theorem lw_p67 : lw_okq (⟨"DeckFrontModel", "isOpen", "(I)Z"⟩, 36) := ⟨⟨by decide +kernel, by decide +kernel⟩, List.mem_of_getElem? (i := 744) (by decide +kernel), List.mem_of_getElem? (i := 1127) (by decide +kernel), List.mem_of_getElem? (i := 1128) (by decide +kernel)⟩
theorem lw_p68 : lw_okq (⟨"DeckFrontModel", "later", "(II)I"⟩, 36) := ⟨⟨by decide +kernel, by decide +kernel⟩, List.mem_of_getElem? (i := 744) (by decide +kernel), List.mem_of_getElem? (i := 1131) (by decide +kernel), List.mem_of_getElem? (i := 1132) (by decide +kernel)⟩
theorem lw_p69 : lw_okq (⟨"DeckFrontModel", "isLabel", "(II)Z"⟩, 36) := ⟨⟨by decide +kernel, by decide +kernel⟩, List.mem_of_getElem? (i := 744) (by decide +kernel), List.mem_of_getElem? (i := 1135) (by decide +kernel), List.mem_of_getElem? (i := 1136) (by decide +kernel)⟩
def lw_privs_5 : List (MethodName × Nat) := [(⟨"DeckFrontModel", "isComputed", "()Z"⟩, 36), (⟨"DeckFrontModel", "firstFault", "()I"⟩, 36), (⟨"DeckFrontModel", "early", "(IIZ)I"⟩, 36), (⟨"DeckFrontModel", "isOpen", "(I)Z"⟩, 36), (⟨"DeckFrontModel", "later", "(II)I"⟩, 36), (⟨"DeckFrontModel", "isLabel", "(II)Z"⟩, 36)]
theorem lw_r5 : ∀ q ∈ lw_privs_5, lw_okq q := List.forall_mem_cons.mpr ⟨lw_p64, List.forall_mem_cons.mpr ⟨lw_p65, List.forall_mem_cons.mpr ⟨lw_p66, List.forall_mem_cons.mpr ⟨lw_p67, List.forall_mem_cons.mpr ⟨lw_p68, List.forall_mem_cons.mpr ⟨lw_p69, fun _ h => absurd h List.not_mem_nil⟩⟩⟩⟩⟩⟩
def lw_privs : List (MethodName × Nat) := lw_privs_1 ++ (lw_privs_2 ++ (lw_privs_3 ++ (lw_privs_4 ++ (lw_privs_5))))
def lw_tbl : List Cond := k2_sels lw_privs ++ tables_1
theorem lw_privs_ok : ∀ q ∈ lw_privs, lw_okq q := by
  show ∀ q ∈ lw_privs_1 ++ (lw_privs_2 ++ (lw_privs_3 ++ (lw_privs_4 ++ (lw_privs_5)))), lw_okq q
  exact List.forall_mem_append.mpr ⟨lw_r1, List.forall_mem_append.mpr ⟨lw_r2, List.forall_mem_append.mpr ⟨lw_r3, List.forall_mem_append.mpr ⟨lw_r4, lw_r5⟩⟩⟩⟩
end
section
/-! words: the good ones of the tables, by their places -/
def wG : List Cond := lw_tbl.filter goodWord
theorem wg_in {w : Cond} (h : w ∈ lw_tbl) (hg : goodWord w = true) : w ∈ wG := List.mem_filter.mpr ⟨h, hg⟩
theorem wg_tb {w : Cond} (h : w ∈ wG) : w ∈ lw_tbl := (List.mem_filter.mp h).1
theorem wt_1 {w : Cond} (h : w ∈ tables_1_1) : w ∈ lw_tbl := List.mem_append_right _ (List.mem_append_left _ h)
theorem wt_2 {w : Cond} (h : w ∈ tables_1_2) : w ∈ lw_tbl := List.mem_append_right _ (List.mem_append_right _ (List.mem_append_left _ h))
theorem wt_3 {w : Cond} (h : w ∈ tables_1_3) : w ∈ lw_tbl := List.mem_append_right _ (List.mem_append_right _ (List.mem_append_right _ (List.mem_append_left _ h)))
theorem wt_4 {w : Cond} (h : w ∈ tables_1_4) : w ∈ lw_tbl := List.mem_append_right _ (List.mem_append_right _ (List.mem_append_right _ (List.mem_append_right _ (List.mem_append_left _ h))))
theorem wt_5 {w : Cond} (h : w ∈ tables_1_5) : w ∈ lw_tbl := List.mem_append_right _ (List.mem_append_right _ (List.mem_append_right _ (List.mem_append_right _ (List.mem_append_right _ h))))
theorem gG {a b : Cond} (h : b ∈ wG) : GoodIn (a :: wG) (b :: wG) := fun w hw => by
  rcases List.mem_cons.mp hw with h' | h'
  · subst h'
    exact ⟨List.mem_cons_of_mem _ h, good_of_word (List.mem_filter.mp h).2⟩
  · exact ⟨List.mem_cons_of_mem _ h', good_of_word (List.mem_filter.mp h').2⟩
theorem cG {a b : Cond} (h : b ∈ wG) : b ∈ a :: wG := List.mem_cons_of_mem _ h
theorem tw_0 : (Jvm.Cond.initialized "DeckFrontLaw") ∈ wG := wg_in (wt_1 (List.mem_of_getElem? (i := 0) rfl)) rfl
theorem tw_1 : (Jvm.Cond.initialized "DeckFront") ∈ wG := wg_in (wt_1 (List.mem_of_getElem? (i := 1) rfl)) rfl
theorem tw_2 : (Jvm.Cond.initialized "DeckFront$Card") ∈ wG := wg_in (wt_1 (List.mem_of_getElem? (i := 2) rfl)) rfl
theorem tw_3 : (Jvm.Cond.initialized "DeckFront$Deck") ∈ wG := wg_in (wt_1 (List.mem_of_getElem? (i := 3) rfl)) rfl
theorem tw_4 : (Jvm.Cond.initialized "DeckFront$Tape") ∈ wG := wg_in (wt_1 (List.mem_of_getElem? (i := 4) rfl)) rfl
theorem tw_5 : (Jvm.Cond.initialized "DeckFront$Statement") ∈ wG := wg_in (wt_1 (List.mem_of_getElem? (i := 5) rfl)) rfl
theorem tw_6 : (Jvm.Cond.initialized "DeckFront$Structure") ∈ wG := wg_in (wt_1 (List.mem_of_getElem? (i := 6) rfl)) rfl
theorem tw_7 : (Jvm.Cond.initialized "DeckFrontModel") ∈ wG := wg_in (wt_1 (List.mem_of_getElem? (i := 7) rfl)) rfl
theorem tw_8 : (Jvm.Cond.initialized "java/lang/String") ∈ wG := wg_in (wt_1 (List.mem_of_getElem? (i := 8) rfl)) rfl
theorem tw_9 : (Jvm.Cond.initialized "java/lang/StringLatin1") ∈ wG := wg_in (wt_1 (List.mem_of_getElem? (i := 9) rfl)) rfl
theorem tw_10 : (Jvm.Cond.initialized "java/lang/Math") ∈ wG := wg_in (wt_1 (List.mem_of_getElem? (i := 10) rfl)) rfl
theorem tw_11 : (Jvm.Cond.initialized "java/lang/StringUTF16") ∈ wG := wg_in (wt_1 (List.mem_of_getElem? (i := 11) rfl)) rfl
theorem tw_12 : (Jvm.Cond.initialized "jdk/internal/util/Preconditions") ∈ wG := wg_in (wt_1 (List.mem_of_getElem? (i := 12) rfl)) rfl
theorem tw_13 : (Jvm.Cond.initialized "java/lang/Character") ∈ wG := wg_in (wt_1 (List.mem_of_getElem? (i := 13) rfl)) rfl
theorem tw_14 : (Jvm.Cond.initialized "java/lang/Throwable") ∈ wG := wg_in (wt_1 (List.mem_of_getElem? (i := 14) rfl)) rfl
theorem tw_15 : (Jvm.Cond.initialized "java/lang/Exception") ∈ wG := wg_in (wt_1 (List.mem_of_getElem? (i := 15) rfl)) rfl
theorem tw_16 : (Jvm.Cond.initialized "java/lang/RuntimeException") ∈ wG := wg_in (wt_1 (List.mem_of_getElem? (i := 16) rfl)) rfl
theorem tw_17 : (Jvm.Cond.initialized "java/lang/IllegalArgumentException") ∈ wG := wg_in (wt_1 (List.mem_of_getElem? (i := 17) rfl)) rfl
theorem tw_18 : (Jvm.Cond.initialized "java/lang/IllegalStateException") ∈ wG := wg_in (wt_1 (List.mem_of_getElem? (i := 18) rfl)) rfl
theorem tw_19 : (Jvm.Cond.classLink "DeckFrontLaw" (8 : Nat) "DeckFront") ∈ wG := wg_in (wt_1 (List.mem_of_getElem? (i := 19) rfl)) rfl
theorem tw_20 : (Jvm.Cond.instantiable "DeckFront" (3 : Nat)) ∈ wG := wg_in (wt_1 (List.mem_of_getElem? (i := 20) rfl)) rfl
theorem tw_21 : (Jvm.Cond.methodLink "DeckFrontLaw" (17 : Nat) ({ cls := "DeckFront", name := "<init>", desc := "()V" } : Jvm.MethodName)) ∈ wG := wg_in (wt_1 (List.mem_of_getElem? (i := 21) rfl)) rfl
theorem tw_22 : (Jvm.Cond.instanceMethod ({ cls := "DeckFront", name := "<init>", desc := "()V" } : Jvm.MethodName)) ∈ wG := wg_in (wt_1 (List.mem_of_getElem? (i := 22) rfl)) rfl
theorem tw_23 : (Jvm.Cond.code ({ cls := "DeckFront", name := "<init>", desc := "()V" } : Jvm.MethodName) prog_1_method_1_code (1 : Nat) (Option.none : Option Jvm.ClassFile.FieldType)) ∈ wG := wg_in (wt_1 (List.mem_of_getElem? (i := 23) rfl)) rfl
theorem tw_24 : (Jvm.Cond.methodLink "DeckFront" (1 : Nat) ({ cls := "java/lang/Object", name := "<init>", desc := "()V" } : Jvm.MethodName)) ∈ wG := wg_in (wt_1 (List.mem_of_getElem? (i := 24) rfl)) rfl
theorem tw_25 : (Jvm.Cond.instanceMethod ({ cls := "java/lang/Object", name := "<init>", desc := "()V" } : Jvm.MethodName)) ∈ wG := wg_in (wt_1 (List.mem_of_getElem? (i := 25) rfl)) rfl
theorem tw_26 : (Jvm.Cond.code ({ cls := "java/lang/Object", name := "<init>", desc := "()V" } : Jvm.MethodName) object_method_1_code (1 : Nat) (Option.none : Option Jvm.ClassFile.FieldType)) ∈ wG := wg_in (wt_1 (List.mem_of_getElem? (i := 26) rfl)) rfl
theorem tw_27 : (Jvm.Cond.classLink "DeckFront" (7 : Nat) "DeckFront$Card") ∈ wG := wg_in (wt_1 (List.mem_of_getElem? (i := 27) rfl)) rfl
theorem tw_28 : (Jvm.Cond.instantiable "DeckFront$Card" (2 : Nat)) ∈ wG := wg_in (wt_1 (List.mem_of_getElem? (i := 28) rfl)) rfl
theorem tw_30 : (Jvm.Cond.instanceMethod ({ cls := "DeckFront$Card", name := "<init>", desc := "()V" } : Jvm.MethodName)) ∈ wG := wg_in (wt_1 (List.mem_of_getElem? (i := 30) rfl)) rfl
theorem tw_31 : (Jvm.Cond.code ({ cls := "DeckFront$Card", name := "<init>", desc := "()V" } : Jvm.MethodName) prog_2_method_1_code (1 : Nat) (Option.none : Option Jvm.ClassFile.FieldType)) ∈ wG := wg_in (wt_1 (List.mem_of_getElem? (i := 31) rfl)) rfl
theorem tw_32 : (Jvm.Cond.methodLink "DeckFront$Card" (3 : Nat) ({ cls := "java/lang/Object", name := "<init>", desc := "()V" } : Jvm.MethodName)) ∈ wG := wg_in (wt_1 (List.mem_of_getElem? (i := 32) rfl)) rfl
theorem tw_33 : (Jvm.Cond.fieldLink "DeckFront$Card" (9 : Nat) "DeckFront$Card" "signs" "[C") ∈ wG := wg_in (wt_1 (List.mem_of_getElem? (i := 33) rfl)) rfl
theorem tw_34 : (Jvm.Cond.fieldLink "DeckFront$Tape" (39 : Nat) "DeckFront$Card" "signs" "[C") ∈ wG := wg_in (wt_1 (List.mem_of_getElem? (i := 34) rfl)) rfl
theorem tw_35 : (Jvm.Cond.fieldLink "DeckFront$Card" (19 : Nat) "DeckFront$Card" "length" "I") ∈ wG := wg_in (wt_1 (List.mem_of_getElem? (i := 35) rfl)) rfl
theorem tw_36 : (Jvm.Cond.fieldLink "DeckFront$Tape" (36 : Nat) "DeckFront$Card" "length" "I") ∈ wG := wg_in (wt_1 (List.mem_of_getElem? (i := 36) rfl)) rfl
theorem tw_37 : (Jvm.Cond.fieldLink "DeckFront" (38 : Nat) "DeckFront$Card" "length" "I") ∈ wG := wg_in (wt_1 (List.mem_of_getElem? (i := 37) rfl)) rfl
theorem tw_38 : (Jvm.Cond.laysFinal "DeckFront$Card" "DeckFront$Card" "signs" "[C") ∈ wG := wg_in (wt_1 (List.mem_of_getElem? (i := 38) rfl)) rfl
theorem tw_40 : (Jvm.Cond.lays "DeckFront$Card" "DeckFront$Card" "length" "I") ∈ wG := wg_in (wt_1 (List.mem_of_getElem? (i := 40) rfl)) rfl
theorem tw_43 : (Jvm.Cond.arrayClass Jvm.ClassFile.FieldType.char) ∈ wG := wg_in (wt_1 (List.mem_of_getElem? (i := 43) rfl)) rfl
theorem tw_44 : (Jvm.Cond.classLink "DeckFront" (16 : Nat) "DeckFront$Deck") ∈ wG := wg_in (wt_1 (List.mem_of_getElem? (i := 44) rfl)) rfl
theorem tw_45 : (Jvm.Cond.instantiable "DeckFront$Deck" (2 : Nat)) ∈ wG := wg_in (wt_1 (List.mem_of_getElem? (i := 45) rfl)) rfl
theorem tw_46 : (Jvm.Cond.methodLink "DeckFront" (18 : Nat) ({ cls := "DeckFront$Deck", name := "<init>", desc := "()V" } : Jvm.MethodName)) ∈ wG := wg_in (wt_1 (List.mem_of_getElem? (i := 46) rfl)) rfl
theorem tw_47 : (Jvm.Cond.instanceMethod ({ cls := "DeckFront$Deck", name := "<init>", desc := "()V" } : Jvm.MethodName)) ∈ wG := wg_in (wt_1 (List.mem_of_getElem? (i := 47) rfl)) rfl
theorem tw_48 : (Jvm.Cond.code ({ cls := "DeckFront$Deck", name := "<init>", desc := "()V" } : Jvm.MethodName) prog_3_method_1_code (2 : Nat) (Option.none : Option Jvm.ClassFile.FieldType)) ∈ wG := wg_in (wt_1 (List.mem_of_getElem? (i := 48) rfl)) rfl
theorem tw_49 : (Jvm.Cond.methodLink "DeckFront$Deck" (3 : Nat) ({ cls := "java/lang/Object", name := "<init>", desc := "()V" } : Jvm.MethodName)) ∈ wG := wg_in (wt_1 (List.mem_of_getElem? (i := 49) rfl)) rfl
theorem tw_50 : (Jvm.Cond.classLink "DeckFront$Deck" (9 : Nat) "DeckFront$Statement") ∈ wG := wg_in (wt_1 (List.mem_of_getElem? (i := 50) rfl)) rfl
theorem tw_52 : (Jvm.Cond.instantiable "DeckFront$Statement" (9 : Nat)) ∈ wG := wg_in (wt_1 (List.mem_of_getElem? (i := 52) rfl)) rfl
theorem tw_54 : (Jvm.Cond.instanceMethod ({ cls := "DeckFront$Statement", name := "<init>", desc := "()V" } : Jvm.MethodName)) ∈ wG := wg_in (wt_1 (List.mem_of_getElem? (i := 54) rfl)) rfl
theorem tw_55 : (Jvm.Cond.code ({ cls := "DeckFront$Statement", name := "<init>", desc := "()V" } : Jvm.MethodName) prog_4_method_1_code (1 : Nat) (Option.none : Option Jvm.ClassFile.FieldType)) ∈ wG := wg_in (wt_1 (List.mem_of_getElem? (i := 55) rfl)) rfl
theorem tw_57 : (Jvm.Cond.instanceMethod ({ cls := "DeckFront$Tape", name := "<init>", desc := "()V" } : Jvm.MethodName)) ∈ wG := wg_in (wt_1 (List.mem_of_getElem? (i := 57) rfl)) rfl
theorem tw_58 : (Jvm.Cond.code ({ cls := "DeckFront$Tape", name := "<init>", desc := "()V" } : Jvm.MethodName) prog_6_method_1_code (1 : Nat) (Option.none : Option Jvm.ClassFile.FieldType)) ∈ wG := wg_in (wt_1 (List.mem_of_getElem? (i := 58) rfl)) rfl
theorem tw_59 : (Jvm.Cond.methodLink "DeckFront$Tape" (3 : Nat) ({ cls := "java/lang/Object", name := "<init>", desc := "()V" } : Jvm.MethodName)) ∈ wG := wg_in (wt_1 (List.mem_of_getElem? (i := 59) rfl)) rfl
theorem tw_60 : (Jvm.Cond.fieldLink "DeckFront$Structure" (43 : Nat) "DeckFront$Statement" "number" "I") ∈ wG := wg_in (wt_1 (List.mem_of_getElem? (i := 60) rfl)) rfl
theorem tw_61 : (Jvm.Cond.fieldLink "DeckFront$Deck" (45 : Nat) "DeckFront$Statement" "number" "I") ∈ wG := wg_in (wt_1 (List.mem_of_getElem? (i := 61) rfl)) rfl
theorem tw_62 : (Jvm.Cond.fieldLink "DeckFront" (66 : Nat) "DeckFront$Statement" "number" "I") ∈ wG := wg_in (wt_1 (List.mem_of_getElem? (i := 62) rfl)) rfl
theorem tw_63 : (Jvm.Cond.fieldLink "DeckFront$Statement" (22 : Nat) "DeckFront$Statement" "is" "I") ∈ wG := wg_in (wt_1 (List.mem_of_getElem? (i := 63) rfl)) rfl
theorem tw_64 : (Jvm.Cond.fieldLink "DeckFront$Structure" (38 : Nat) "DeckFront$Statement" "is" "I") ∈ wG := wg_in (wt_1 (List.mem_of_getElem? (i := 64) rfl)) rfl
theorem tw_65 : (Jvm.Cond.fieldLink "DeckFront$Deck" (63 : Nat) "DeckFront$Statement" "is" "I") ∈ wG := wg_in (wt_1 (List.mem_of_getElem? (i := 65) rfl)) rfl
theorem tw_66 : (Jvm.Cond.fieldLink "DeckFront" (69 : Nat) "DeckFront$Statement" "is" "I") ∈ wG := wg_in (wt_1 (List.mem_of_getElem? (i := 66) rfl)) rfl
theorem tw_67 : (Jvm.Cond.fieldLink "DeckFront$Tape" (9 : Nat) "DeckFront$Tape" "text" "[C") ∈ wG := wg_in (wt_1 (List.mem_of_getElem? (i := 67) rfl)) rfl
theorem tw_68 : (Jvm.Cond.fieldLink "DeckFront$Statement" (190 : Nat) "DeckFront$Statement" "text" "[C") ∈ wG := wg_in (wt_1 (List.mem_of_getElem? (i := 68) rfl)) rfl
theorem tw_69 : (Jvm.Cond.sameField "DeckFront$Statement" "DeckFront$Tape" "text" "[C") ∈ wG := wg_in (wt_1 (List.mem_of_getElem? (i := 69) rfl)) rfl
theorem tw_70 : (Jvm.Cond.fieldLink "DeckFront$Tape" (15 : Nat) "DeckFront$Tape" "opens" "[I") ∈ wG := wg_in (wt_1 (List.mem_of_getElem? (i := 70) rfl)) rfl
theorem tw_71 : (Jvm.Cond.fieldLink "DeckFront$Statement" (130 : Nat) "DeckFront$Statement" "opens" "[I") ∈ wG := wg_in (wt_1 (List.mem_of_getElem? (i := 71) rfl)) rfl
theorem tw_72 : (Jvm.Cond.sameField "DeckFront$Statement" "DeckFront$Tape" "opens" "[I") ∈ wG := wg_in (wt_1 (List.mem_of_getElem? (i := 72) rfl)) rfl
theorem tw_73 : (Jvm.Cond.fieldLink "DeckFront$Tape" (19 : Nat) "DeckFront$Tape" "closes" "[I") ∈ wG := wg_in (wt_1 (List.mem_of_getElem? (i := 73) rfl)) rfl
theorem tw_74 : (Jvm.Cond.fieldLink "DeckFront$Tape" (22 : Nat) "DeckFront$Tape" "roles" "[I") ∈ wG := wg_in (wt_1 (List.mem_of_getElem? (i := 74) rfl)) rfl
theorem tw_75 : (Jvm.Cond.fieldLink "DeckFront$Structure" (89 : Nat) "DeckFront$Statement" "roles" "[I") ∈ wG := wg_in (wt_1 (List.mem_of_getElem? (i := 75) rfl)) rfl
theorem tw_76 : (Jvm.Cond.sameField "DeckFront$Statement" "DeckFront$Tape" "roles" "[I") ∈ wG := wg_in (wt_1 (List.mem_of_getElem? (i := 76) rfl)) rfl
theorem tw_77 : (Jvm.Cond.fieldLink "DeckFront$Statement" (185 : Nat) "DeckFront$Statement" "roles" "[I") ∈ wG := wg_in (wt_1 (List.mem_of_getElem? (i := 77) rfl)) rfl
theorem tw_78 : (Jvm.Cond.fieldLink "DeckFront$Tape" (25 : Nat) "DeckFront$Tape" "length" "I") ∈ wG := wg_in (wt_1 (List.mem_of_getElem? (i := 78) rfl)) rfl
theorem tw_79 : (Jvm.Cond.fieldLink "DeckFront$Statement" (9 : Nat) "DeckFront$Statement" "length" "I") ∈ wG := wg_in (wt_1 (List.mem_of_getElem? (i := 79) rfl)) rfl
theorem tw_80 : (Jvm.Cond.sameField "DeckFront$Statement" "DeckFront$Tape" "length" "I") ∈ wG := wg_in (wt_1 (List.mem_of_getElem? (i := 80) rfl)) rfl
theorem tw_81 : (Jvm.Cond.fieldLink "DeckFront$Structure" (86 : Nat) "DeckFront$Statement" "length" "I") ∈ wG := wg_in (wt_1 (List.mem_of_getElem? (i := 81) rfl)) rfl
theorem tw_82 : (Jvm.Cond.fieldLink "DeckFront$Statement" (15 : Nat) "DeckFront$Statement" "at" "I") ∈ wG := wg_in (wt_1 (List.mem_of_getElem? (i := 82) rfl)) rfl
theorem tw_83 : (Jvm.Cond.sameField "DeckFront$Statement" "DeckFront$Tape" "at" "I") ∈ wG := wg_in (wt_1 (List.mem_of_getElem? (i := 83) rfl)) rfl
theorem tw_84 : (Jvm.Cond.fieldLink "DeckFront$Tape" (29 : Nat) "DeckFront$Tape" "at" "I") ∈ wG := wg_in (wt_1 (List.mem_of_getElem? (i := 84) rfl)) rfl
theorem tw_85 : (Jvm.Cond.fieldLink "DeckFront$Tape" (32 : Nat) "DeckFront$Tape" "inQuote" "Z") ∈ wG := wg_in (wt_1 (List.mem_of_getElem? (i := 85) rfl)) rfl
theorem tw_86 : (Jvm.Cond.lays "DeckFront$Statement" "DeckFront$Statement" "number" "I") ∈ wG := wg_in (wt_1 (List.mem_of_getElem? (i := 86) rfl)) rfl
theorem tw_88 : (Jvm.Cond.lays "DeckFront$Statement" "DeckFront$Statement" "is" "I") ∈ wG := wg_in (wt_1 (List.mem_of_getElem? (i := 88) rfl)) rfl
theorem tw_90 : (Jvm.Cond.laysFinal "DeckFront$Statement" "DeckFront$Tape" "text" "[C") ∈ wG := wg_in (wt_1 (List.mem_of_getElem? (i := 90) rfl)) rfl
theorem tw_92 : (Jvm.Cond.laysFinal "DeckFront$Statement" "DeckFront$Tape" "opens" "[I") ∈ wG := wg_in (wt_1 (List.mem_of_getElem? (i := 92) rfl)) rfl
theorem tw_94 : (Jvm.Cond.laysFinal "DeckFront$Statement" "DeckFront$Tape" "closes" "[I") ∈ wG := wg_in (wt_1 (List.mem_of_getElem? (i := 94) rfl)) rfl
theorem tw_96 : (Jvm.Cond.laysFinal "DeckFront$Statement" "DeckFront$Tape" "roles" "[I") ∈ wG := wg_in (wt_1 (List.mem_of_getElem? (i := 96) rfl)) rfl
theorem tw_98 : (Jvm.Cond.lays "DeckFront$Statement" "DeckFront$Tape" "length" "I") ∈ wG := wg_in (wt_1 (List.mem_of_getElem? (i := 98) rfl)) rfl
theorem tw_100 : (Jvm.Cond.lays "DeckFront$Statement" "DeckFront$Tape" "at" "I") ∈ wG := wg_in (wt_1 (List.mem_of_getElem? (i := 100) rfl)) rfl
theorem tw_102 : (Jvm.Cond.lays "DeckFront$Statement" "DeckFront$Tape" "inQuote" "Z") ∈ wG := wg_in (wt_1 (List.mem_of_getElem? (i := 102) rfl)) rfl
theorem tw_105 : (Jvm.Cond.arrayClass Jvm.ClassFile.FieldType.int) ∈ wG := wg_in (wt_1 (List.mem_of_getElem? (i := 105) rfl)) rfl
theorem tw_106 : (Jvm.Cond.fieldLink "DeckFront$Deck" (11 : Nat) "DeckFront$Deck" "rows" "[LDeckFront$Statement;") ∈ wG := wg_in (wt_1 (List.mem_of_getElem? (i := 106) rfl)) rfl
theorem tw_107 : (Jvm.Cond.fieldLink "DeckFront$Structure" (34 : Nat) "DeckFront$Deck" "rows" "[LDeckFront$Statement;") ∈ wG := wg_in (wt_1 (List.mem_of_getElem? (i := 107) rfl)) rfl
theorem tw_108 : (Jvm.Cond.fieldLink "DeckFront$Deck" (18 : Nat) "DeckFront$Deck" "count" "I") ∈ wG := wg_in (wt_1 (List.mem_of_getElem? (i := 108) rfl)) rfl
theorem tw_109 : (Jvm.Cond.fieldLink "DeckFront$Structure" (25 : Nat) "DeckFront$Deck" "count" "I") ∈ wG := wg_in (wt_1 (List.mem_of_getElem? (i := 109) rfl)) rfl
theorem tw_110 : (Jvm.Cond.fieldLink "DeckFront" (63 : Nat) "DeckFront$Deck" "count" "I") ∈ wG := wg_in (wt_1 (List.mem_of_getElem? (i := 110) rfl)) rfl
theorem tw_111 : (Jvm.Cond.laysFinal "DeckFront$Deck" "DeckFront$Deck" "rows" "[LDeckFront$Statement;") ∈ wG := wg_in (wt_1 (List.mem_of_getElem? (i := 111) rfl)) rfl
theorem tw_113 : (Jvm.Cond.lays "DeckFront$Deck" "DeckFront$Deck" "count" "I") ∈ wG := wg_in (wt_1 (List.mem_of_getElem? (i := 113) rfl)) rfl
theorem tw_116 : (Jvm.Cond.classLink "DeckFront" (23 : Nat) "DeckFront$Structure") ∈ wG := wg_in (wt_1 (List.mem_of_getElem? (i := 116) rfl)) rfl
theorem tw_117 : (Jvm.Cond.instantiable "DeckFront$Structure" (4 : Nat)) ∈ wG := wg_in (wt_1 (List.mem_of_getElem? (i := 117) rfl)) rfl
theorem tw_119 : (Jvm.Cond.instanceMethod ({ cls := "DeckFront$Structure", name := "<init>", desc := "()V" } : Jvm.MethodName)) ∈ wG := wg_in (wt_1 (List.mem_of_getElem? (i := 119) rfl)) rfl
theorem tw_120 : (Jvm.Cond.code ({ cls := "DeckFront$Structure", name := "<init>", desc := "()V" } : Jvm.MethodName) prog_5_method_1_code (1 : Nat) (Option.none : Option Jvm.ClassFile.FieldType)) ∈ wG := wg_in (wt_1 (List.mem_of_getElem? (i := 120) rfl)) rfl
theorem tw_121 : (Jvm.Cond.methodLink "DeckFront$Structure" (3 : Nat) ({ cls := "java/lang/Object", name := "<init>", desc := "()V" } : Jvm.MethodName)) ∈ wG := wg_in (wt_1 (List.mem_of_getElem? (i := 121) rfl)) rfl
theorem tw_122 : (Jvm.Cond.fieldLink "DeckFront$Structure" (9 : Nat) "DeckFront$Structure" "open" "[I") ∈ wG := wg_in (wt_1 (List.mem_of_getElem? (i := 122) rfl)) rfl
theorem tw_123 : (Jvm.Cond.fieldLink "DeckFront$Structure" (15 : Nat) "DeckFront$Structure" "depth" "I") ∈ wG := wg_in (wt_1 (List.mem_of_getElem? (i := 123) rfl)) rfl
theorem tw_124 : (Jvm.Cond.fieldLink "DeckFront$Structure" (19 : Nat) "DeckFront$Structure" "found" "I") ∈ wG := wg_in (wt_1 (List.mem_of_getElem? (i := 124) rfl)) rfl
theorem tw_125 : (Jvm.Cond.fieldLink "DeckFront" (91 : Nat) "DeckFront$Structure" "found" "I") ∈ wG := wg_in (wt_1 (List.mem_of_getElem? (i := 125) rfl)) rfl
theorem tw_126 : (Jvm.Cond.fieldLink "DeckFront$Structure" (22 : Nat) "DeckFront$Structure" "place" "I") ∈ wG := wg_in (wt_1 (List.mem_of_getElem? (i := 126) rfl)) rfl
theorem tw_127 : (Jvm.Cond.fieldLink "DeckFront" (94 : Nat) "DeckFront$Structure" "place" "I") ∈ wG := wg_in (wt_1 (List.mem_of_getElem? (i := 127) rfl)) rfl
theorem tw_128 : (Jvm.Cond.laysFinal "DeckFront$Structure" "DeckFront$Structure" "open" "[I") ∈ wG := wg_in (wt_1 (List.mem_of_getElem? (i := 128) rfl)) rfl
theorem tw_130 : (Jvm.Cond.lays "DeckFront$Structure" "DeckFront$Structure" "depth" "I") ∈ wG := wg_in (wt_1 (List.mem_of_getElem? (i := 130) rfl)) rfl
theorem tw_132 : (Jvm.Cond.lays "DeckFront$Structure" "DeckFront$Structure" "found" "I") ∈ wG := wg_in (wt_1 (List.mem_of_getElem? (i := 132) rfl)) rfl
theorem tw_134 : (Jvm.Cond.lays "DeckFront$Structure" "DeckFront$Structure" "place" "I") ∈ wG := wg_in (wt_1 (List.mem_of_getElem? (i := 134) rfl)) rfl
theorem tw_137 : (Jvm.Cond.fieldLink "DeckFront" (10 : Nat) "DeckFront" "written" "LDeckFront$Card;") ∈ wG := wg_in (wt_1 (List.mem_of_getElem? (i := 137) rfl)) rfl
theorem tw_138 : (Jvm.Cond.fieldLink "DeckFront" (19 : Nat) "DeckFront" "deck" "LDeckFront$Deck;") ∈ wG := wg_in (wt_1 (List.mem_of_getElem? (i := 138) rfl)) rfl
theorem tw_139 : (Jvm.Cond.fieldLink "DeckFront" (26 : Nat) "DeckFront" "structure" "LDeckFront$Structure;") ∈ wG := wg_in (wt_1 (List.mem_of_getElem? (i := 139) rfl)) rfl
theorem tw_140 : (Jvm.Cond.laysFinal "DeckFront" "DeckFront" "written" "LDeckFront$Card;") ∈ wG := wg_in (wt_1 (List.mem_of_getElem? (i := 140) rfl)) rfl
theorem tw_142 : (Jvm.Cond.laysFinal "DeckFront" "DeckFront" "deck" "LDeckFront$Deck;") ∈ wG := wg_in (wt_1 (List.mem_of_getElem? (i := 142) rfl)) rfl
theorem tw_144 : (Jvm.Cond.laysFinal "DeckFront" "DeckFront" "structure" "LDeckFront$Structure;") ∈ wG := wg_in (wt_1 (List.mem_of_getElem? (i := 144) rfl)) rfl
theorem tw_147 : (Jvm.Cond.methodLink "DeckFrontLaw" (23 : Nat) ({ cls := "DeckFront", name := "write", desc := "(J)Z" } : Jvm.MethodName)) ∈ wG := wg_in (wt_1 (List.mem_of_getElem? (i := 147) rfl)) rfl
theorem tw_148 : (Jvm.Cond.instanceMethod ({ cls := "DeckFront", name := "write", desc := "(J)Z" } : Jvm.MethodName)) ∈ wG := wg_in (wt_1 (List.mem_of_getElem? (i := 148) rfl)) rfl
theorem tw_149 : (Jvm.Cond.selects "DeckFront" ({ cls := "DeckFront", name := "write", desc := "(J)Z" } : Jvm.MethodName) ({ cls := "DeckFront", name := "write", desc := "(J)Z" } : Jvm.MethodName)) ∈ wG := wg_in (wt_1 (List.mem_of_getElem? (i := 149) rfl)) rfl
theorem tw_150 : (Jvm.Cond.code ({ cls := "DeckFront", name := "write", desc := "(J)Z" } : Jvm.MethodName) prog_1_method_2_code (3 : Nat) (Option.some Jvm.ClassFile.FieldType.boolean)) ∈ wG := wg_in (wt_1 (List.mem_of_getElem? (i := 150) rfl)) rfl
theorem tw_151 : (Jvm.Cond.methodLink "DeckFront" (30 : Nat) ({ cls := "DeckFront$Card", name := "append", desc := "(J)Z" } : Jvm.MethodName)) ∈ wG := wg_in (wt_1 (List.mem_of_getElem? (i := 151) rfl)) rfl
theorem tw_152 : (Jvm.Cond.instanceMethod ({ cls := "DeckFront$Card", name := "append", desc := "(J)Z" } : Jvm.MethodName)) ∈ wG := wg_in (wt_1 (List.mem_of_getElem? (i := 152) rfl)) rfl
theorem tw_153 : (Jvm.Cond.selects "DeckFront$Card" ({ cls := "DeckFront$Card", name := "append", desc := "(J)Z" } : Jvm.MethodName) ({ cls := "DeckFront$Card", name := "append", desc := "(J)Z" } : Jvm.MethodName)) ∈ wG := wg_in (wt_1 (List.mem_of_getElem? (i := 153) rfl)) rfl
theorem tw_154 : (Jvm.Cond.code ({ cls := "DeckFront$Card", name := "append", desc := "(J)Z" } : Jvm.MethodName) prog_2_method_2_code (6 : Nat) (Option.some Jvm.ClassFile.FieldType.boolean)) ∈ wG := wg_in (wt_1 (List.mem_of_getElem? (i := 154) rfl)) rfl
theorem tw_155 : (Jvm.Cond.methodLink "DeckFront$Card" (15 : Nat) ({ cls := "DeckFront$Card", name := "isCardSign", desc := "(I)Z" } : Jvm.MethodName)) ∈ wG := wg_in (wt_1 (List.mem_of_getElem? (i := 155) rfl)) rfl
theorem tw_156 : (Jvm.Cond.static ({ cls := "DeckFront$Card", name := "isCardSign", desc := "(I)Z" } : Jvm.MethodName)) ∈ wG := wg_in (wt_1 (List.mem_of_getElem? (i := 156) rfl)) rfl
theorem tw_157 : (Jvm.Cond.code ({ cls := "DeckFront$Card", name := "isCardSign", desc := "(I)Z" } : Jvm.MethodName) prog_2_method_3_code (1 : Nat) (Option.some Jvm.ClassFile.FieldType.boolean)) ∈ wG := wg_in (wt_1 (List.mem_of_getElem? (i := 157) rfl)) rfl
theorem tw_159 : (Jvm.Cond.static ({ cls := "DeckFront", name := "isLetter", desc := "(I)Z" } : Jvm.MethodName)) ∈ wG := wg_in (wt_1 (List.mem_of_getElem? (i := 159) rfl)) rfl
theorem tw_160 : (Jvm.Cond.code ({ cls := "DeckFront", name := "isLetter", desc := "(I)Z" } : Jvm.MethodName) prog_1_method_13_code (1 : Nat) (Option.some Jvm.ClassFile.FieldType.boolean)) ∈ wG := wg_in (wt_1 (List.mem_of_getElem? (i := 160) rfl)) rfl
theorem tw_162 : (Jvm.Cond.static ({ cls := "DeckFront", name := "isDigit", desc := "(I)Z" } : Jvm.MethodName)) ∈ wG := wg_in (wt_1 (List.mem_of_getElem? (i := 162) rfl)) rfl
theorem tw_163 : (Jvm.Cond.code ({ cls := "DeckFront", name := "isDigit", desc := "(I)Z" } : Jvm.MethodName) prog_1_method_14_code (1 : Nat) (Option.some Jvm.ClassFile.FieldType.boolean)) ∈ wG := wg_in (wt_1 (List.mem_of_getElem? (i := 163) rfl)) rfl
theorem tw_165 : (Jvm.Cond.methodLink "DeckFront$Card" (31 : Nat) ({ cls := "java/lang/String", name := "indexOf", desc := "(I)I" } : Jvm.MethodName)) ∈ wG := wg_in (wt_1 (List.mem_of_getElem? (i := 165) rfl)) rfl
theorem tw_166 : (Jvm.Cond.instanceMethod ({ cls := "java/lang/String", name := "indexOf", desc := "(I)I" } : Jvm.MethodName)) ∈ wG := wg_in (wt_1 (List.mem_of_getElem? (i := 166) rfl)) rfl
theorem tw_167 : (Jvm.Cond.selects "java/lang/String" ({ cls := "java/lang/String", name := "indexOf", desc := "(I)I" } : Jvm.MethodName) ({ cls := "java/lang/String", name := "indexOf", desc := "(I)I" } : Jvm.MethodName)) ∈ wG := wg_in (wt_1 (List.mem_of_getElem? (i := 167) rfl)) rfl
theorem tw_168 : (Jvm.Cond.code ({ cls := "java/lang/String", name := "indexOf", desc := "(I)I" } : Jvm.MethodName) prog_15_method_79_code (2 : Nat) (Option.some Jvm.ClassFile.FieldType.int)) ∈ wG := wg_in (wt_1 (List.mem_of_getElem? (i := 168) rfl)) rfl
theorem tw_169 : (Jvm.Cond.methodLink "java/lang/String" (633 : Nat) ({ cls := "java/lang/String", name := "indexOf", desc := "(II)I" } : Jvm.MethodName)) ∈ wG := wg_in (wt_1 (List.mem_of_getElem? (i := 169) rfl)) rfl
theorem tw_170 : (Jvm.Cond.instanceMethod ({ cls := "java/lang/String", name := "indexOf", desc := "(II)I" } : Jvm.MethodName)) ∈ wG := wg_in (wt_1 (List.mem_of_getElem? (i := 170) rfl)) rfl
theorem tw_171 : (Jvm.Cond.selects "java/lang/String" ({ cls := "java/lang/String", name := "indexOf", desc := "(II)I" } : Jvm.MethodName) ({ cls := "java/lang/String", name := "indexOf", desc := "(II)I" } : Jvm.MethodName)) ∈ wG := wg_in (wt_1 (List.mem_of_getElem? (i := 171) rfl)) rfl
theorem tw_172 : (Jvm.Cond.code ({ cls := "java/lang/String", name := "indexOf", desc := "(II)I" } : Jvm.MethodName) prog_15_method_80_code (3 : Nat) (Option.some Jvm.ClassFile.FieldType.int)) ∈ wG := wg_in (wt_1 (List.mem_of_getElem? (i := 172) rfl)) rfl
theorem tw_173 : (Jvm.Cond.methodLink "java/lang/String" (492 : Nat) ({ cls := "java/lang/String", name := "isLatin1", desc := "()Z" } : Jvm.MethodName)) ∈ wG := wg_in (wt_1 (List.mem_of_getElem? (i := 173) rfl)) rfl
theorem tw_174 : (Jvm.Cond.instanceMethod ({ cls := "java/lang/String", name := "isLatin1", desc := "()Z" } : Jvm.MethodName)) ∈ wG := wg_in (wt_1 (List.mem_of_getElem? (i := 174) rfl)) rfl
theorem tw_175 : (Jvm.Cond.selects "java/lang/String" ({ cls := "java/lang/String", name := "isLatin1", desc := "()Z" } : Jvm.MethodName) ({ cls := "java/lang/String", name := "isLatin1", desc := "()Z" } : Jvm.MethodName)) ∈ wG := wg_in (wt_1 (List.mem_of_getElem? (i := 175) rfl)) rfl
theorem tw_176 : (Jvm.Cond.code ({ cls := "java/lang/String", name := "isLatin1", desc := "()Z" } : Jvm.MethodName) prog_15_method_154_code (1 : Nat) (Option.some Jvm.ClassFile.FieldType.boolean)) ∈ wG := wg_in (wt_1 (List.mem_of_getElem? (i := 176) rfl)) rfl
theorem tw_177 : (Jvm.Cond.fieldLink "java/lang/String" (38 : Nat) "java/lang/String" "COMPACT_STRINGS" "Z") ∈ wG := wg_in (wt_1 (List.mem_of_getElem? (i := 177) rfl)) rfl
theorem tw_179 : (Jvm.Cond.methodLink "java/lang/String" (505 : Nat) ({ cls := "java/lang/String", name := "length", desc := "()I" } : Jvm.MethodName)) ∈ wG := wg_in (wt_1 (List.mem_of_getElem? (i := 179) rfl)) rfl
theorem tw_180 : (Jvm.Cond.instanceMethod ({ cls := "java/lang/String", name := "length", desc := "()I" } : Jvm.MethodName)) ∈ wG := wg_in (wt_1 (List.mem_of_getElem? (i := 180) rfl)) rfl
theorem tw_181 : (Jvm.Cond.selects "java/lang/String" ({ cls := "java/lang/String", name := "length", desc := "()I" } : Jvm.MethodName) ({ cls := "java/lang/String", name := "length", desc := "()I" } : Jvm.MethodName)) ∈ wG := wg_in (wt_1 (List.mem_of_getElem? (i := 181) rfl)) rfl
theorem tw_182 : (Jvm.Cond.code ({ cls := "java/lang/String", name := "length", desc := "()I" } : Jvm.MethodName) prog_15_method_54_code (1 : Nat) (Option.some Jvm.ClassFile.FieldType.int)) ∈ wG := wg_in (wt_1 (List.mem_of_getElem? (i := 182) rfl)) rfl
theorem tw_183 : (Jvm.Cond.methodLink "java/lang/String" (335 : Nat) ({ cls := "java/lang/String", name := "coder", desc := "()B" } : Jvm.MethodName)) ∈ wG := wg_in (wt_1 (List.mem_of_getElem? (i := 183) rfl)) rfl
theorem tw_184 : (Jvm.Cond.instanceMethod ({ cls := "java/lang/String", name := "coder", desc := "()B" } : Jvm.MethodName)) ∈ wG := wg_in (wt_1 (List.mem_of_getElem? (i := 184) rfl)) rfl
theorem tw_185 : (Jvm.Cond.selects "java/lang/String" ({ cls := "java/lang/String", name := "coder", desc := "()B" } : Jvm.MethodName) ({ cls := "java/lang/String", name := "coder", desc := "()B" } : Jvm.MethodName)) ∈ wG := wg_in (wt_1 (List.mem_of_getElem? (i := 185) rfl)) rfl
theorem tw_186 : (Jvm.Cond.code ({ cls := "java/lang/String", name := "coder", desc := "()B" } : Jvm.MethodName) prog_15_method_152_code (1 : Nat) (Option.some Jvm.ClassFile.FieldType.byte)) ∈ wG := wg_in (wt_1 (List.mem_of_getElem? (i := 186) rfl)) rfl
theorem tw_187 : (Jvm.Cond.methodLink "java/lang/String" (637 : Nat) ({ cls := "java/lang/StringLatin1", name := "indexOf", desc := "([BIII)I" } : Jvm.MethodName)) ∈ wG := wg_in (wt_1 (List.mem_of_getElem? (i := 187) rfl)) rfl
theorem tw_188 : (Jvm.Cond.static ({ cls := "java/lang/StringLatin1", name := "indexOf", desc := "([BIII)I" } : Jvm.MethodName)) ∈ wG := wg_in (wt_1 (List.mem_of_getElem? (i := 188) rfl)) rfl
theorem tw_189 : (Jvm.Cond.code ({ cls := "java/lang/StringLatin1", name := "indexOf", desc := "([BIII)I" } : Jvm.MethodName) prog_16_method_22_code (4 : Nat) (Option.some Jvm.ClassFile.FieldType.int)) ∈ wG := wg_in (wt_1 (List.mem_of_getElem? (i := 189) rfl)) rfl
theorem tw_190 : (Jvm.Cond.methodLink "java/lang/StringLatin1" (88 : Nat) ({ cls := "java/lang/StringLatin1", name := "canEncode", desc := "(I)Z" } : Jvm.MethodName)) ∈ wG := wg_in (wt_1 (List.mem_of_getElem? (i := 190) rfl)) rfl
theorem tw_191 : (Jvm.Cond.static ({ cls := "java/lang/StringLatin1", name := "canEncode", desc := "(I)Z" } : Jvm.MethodName)) ∈ wG := wg_in (wt_1 (List.mem_of_getElem? (i := 191) rfl)) rfl
theorem tw_192 : (Jvm.Cond.code ({ cls := "java/lang/StringLatin1", name := "canEncode", desc := "(I)Z" } : Jvm.MethodName) prog_16_method_4_code (1 : Nat) (Option.some Jvm.ClassFile.FieldType.boolean)) ∈ wG := wg_in (wt_1 (List.mem_of_getElem? (i := 192) rfl)) rfl
theorem tw_193 : (Jvm.Cond.methodLink "java/lang/StringLatin1" (92 : Nat) ({ cls := "java/lang/Math", name := "max", desc := "(II)I" } : Jvm.MethodName)) ∈ wG := wg_in (wt_1 (List.mem_of_getElem? (i := 193) rfl)) rfl
theorem tw_194 : (Jvm.Cond.static ({ cls := "java/lang/Math", name := "max", desc := "(II)I" } : Jvm.MethodName)) ∈ wG := wg_in (wt_1 (List.mem_of_getElem? (i := 194) rfl)) rfl
theorem tw_195 : (Jvm.Cond.code ({ cls := "java/lang/Math", name := "max", desc := "(II)I" } : Jvm.MethodName) prog_13_method_65_code (2 : Nat) (Option.some Jvm.ClassFile.FieldType.int)) ∈ wG := wg_in (wt_1 (List.mem_of_getElem? (i := 195) rfl)) rfl
theorem tw_196 : (Jvm.Cond.methodLink "java/lang/StringLatin1" (38 : Nat) ({ cls := "java/lang/Math", name := "min", desc := "(II)I" } : Jvm.MethodName)) ∈ wG := wg_in (wt_1 (List.mem_of_getElem? (i := 196) rfl)) rfl
theorem tw_197 : (Jvm.Cond.static ({ cls := "java/lang/Math", name := "min", desc := "(II)I" } : Jvm.MethodName)) ∈ wG := wg_in (wt_1 (List.mem_of_getElem? (i := 197) rfl)) rfl
theorem tw_198 : (Jvm.Cond.code ({ cls := "java/lang/Math", name := "min", desc := "(II)I" } : Jvm.MethodName) prog_13_method_69_code (2 : Nat) (Option.some Jvm.ClassFile.FieldType.int)) ∈ wG := wg_in (wt_1 (List.mem_of_getElem? (i := 198) rfl)) rfl
theorem tw_199 : (Jvm.Cond.methodLink "java/lang/StringLatin1" (95 : Nat) ({ cls := "java/lang/StringLatin1", name := "indexOfChar", desc := "([BIII)I" } : Jvm.MethodName)) ∈ wG := wg_in (wt_1 (List.mem_of_getElem? (i := 199) rfl)) rfl
theorem tw_200 : (Jvm.Cond.static ({ cls := "java/lang/StringLatin1", name := "indexOfChar", desc := "([BIII)I" } : Jvm.MethodName)) ∈ wG := wg_in (wt_1 (List.mem_of_getElem? (i := 200) rfl)) rfl
theorem tw_201 : (Jvm.Cond.code ({ cls := "java/lang/StringLatin1", name := "indexOfChar", desc := "([BIII)I" } : Jvm.MethodName) prog_16_method_23_code (6 : Nat) (Option.some Jvm.ClassFile.FieldType.int)) ∈ wG := wg_in (wt_1 (List.mem_of_getElem? (i := 201) rfl)) rfl
theorem tw_202 : (Jvm.Cond.methodLink "java/lang/String" (640 : Nat) ({ cls := "java/lang/StringUTF16", name := "indexOf", desc := "([BIII)I" } : Jvm.MethodName)) ∈ wG := wg_in (wt_1 (List.mem_of_getElem? (i := 202) rfl)) rfl
theorem tw_203 : (Jvm.Cond.static ({ cls := "java/lang/StringUTF16", name := "indexOf", desc := "([BIII)I" } : Jvm.MethodName)) ∈ wG := wg_in (wt_1 (List.mem_of_getElem? (i := 203) rfl)) rfl
theorem tw_204 : (Jvm.Cond.code ({ cls := "java/lang/StringUTF16", name := "indexOf", desc := "([BIII)I" } : Jvm.MethodName) prog_17_method_40_code (4 : Nat) (Option.some Jvm.ClassFile.FieldType.int)) ∈ wG := wg_in (wt_1 (List.mem_of_getElem? (i := 204) rfl)) rfl
theorem tw_205 : (Jvm.Cond.methodLink "java/lang/StringUTF16" (224 : Nat) ({ cls := "java/lang/Math", name := "max", desc := "(II)I" } : Jvm.MethodName)) ∈ wG := wg_in (wt_1 (List.mem_of_getElem? (i := 205) rfl)) rfl
theorem tw_206 : (Jvm.Cond.methodLink "java/lang/StringUTF16" (183 : Nat) ({ cls := "java/lang/Math", name := "min", desc := "(II)I" } : Jvm.MethodName)) ∈ wG := wg_in (wt_1 (List.mem_of_getElem? (i := 206) rfl)) rfl
theorem tw_207 : (Jvm.Cond.constant "java/lang/StringUTF16" (227 : Nat) (65536 : Int32)) ∈ wG := wg_in (wt_1 (List.mem_of_getElem? (i := 207) rfl)) rfl
theorem tw_208 : (Jvm.Cond.methodLink "java/lang/StringUTF16" (228 : Nat) ({ cls := "java/lang/StringUTF16", name := "indexOfChar", desc := "([BIII)I" } : Jvm.MethodName)) ∈ wG := wg_in (wt_1 (List.mem_of_getElem? (i := 208) rfl)) rfl
theorem tw_209 : (Jvm.Cond.static ({ cls := "java/lang/StringUTF16", name := "indexOfChar", desc := "([BIII)I" } : Jvm.MethodName)) ∈ wG := wg_in (wt_1 (List.mem_of_getElem? (i := 209) rfl)) rfl
theorem tw_210 : (Jvm.Cond.code ({ cls := "java/lang/StringUTF16", name := "indexOfChar", desc := "([BIII)I" } : Jvm.MethodName) prog_17_method_47_code (4 : Nat) (Option.some Jvm.ClassFile.FieldType.int)) ∈ wG := wg_in (wt_1 (List.mem_of_getElem? (i := 210) rfl)) rfl
theorem tw_211 : (Jvm.Cond.methodLink "java/lang/StringUTF16" (96 : Nat) ({ cls := "java/lang/StringUTF16", name := "checkBoundsBeginEnd", desc := "(II[B)V" } : Jvm.MethodName)) ∈ wG := wg_in (wt_1 (List.mem_of_getElem? (i := 211) rfl)) rfl
theorem tw_212 : (Jvm.Cond.static ({ cls := "java/lang/StringUTF16", name := "checkBoundsBeginEnd", desc := "(II[B)V" } : Jvm.MethodName)) ∈ wG := wg_in (wt_1 (List.mem_of_getElem? (i := 212) rfl)) rfl
theorem tw_213 : (Jvm.Cond.code ({ cls := "java/lang/StringUTF16", name := "checkBoundsBeginEnd", desc := "(II[B)V" } : Jvm.MethodName) prog_17_method_93_code (3 : Nat) (Option.none : Option Jvm.ClassFile.FieldType)) ∈ wG := wg_in (wt_1 (List.mem_of_getElem? (i := 213) rfl)) rfl
theorem tw_214 : (Jvm.Cond.methodLink "java/lang/StringUTF16" (48 : Nat) ({ cls := "java/lang/StringUTF16", name := "length", desc := "([B)I" } : Jvm.MethodName)) ∈ wG := wg_in (wt_1 (List.mem_of_getElem? (i := 214) rfl)) rfl
theorem tw_215 : (Jvm.Cond.static ({ cls := "java/lang/StringUTF16", name := "length", desc := "([B)I" } : Jvm.MethodName)) ∈ wG := wg_in (wt_1 (List.mem_of_getElem? (i := 215) rfl)) rfl
theorem tw_216 : (Jvm.Cond.code ({ cls := "java/lang/StringUTF16", name := "length", desc := "([B)I" } : Jvm.MethodName) prog_17_method_6_code (1 : Nat) (Option.some Jvm.ClassFile.FieldType.int)) ∈ wG := wg_in (wt_1 (List.mem_of_getElem? (i := 216) rfl)) rfl
theorem tw_217 : (Jvm.Cond.methodLink "java/lang/StringUTF16" (241 : Nat) ({ cls := "java/lang/String", name := "checkBoundsBeginEnd", desc := "(III)V" } : Jvm.MethodName)) ∈ wG := wg_in (wt_1 (List.mem_of_getElem? (i := 217) rfl)) rfl
theorem tw_218 : (Jvm.Cond.static ({ cls := "java/lang/String", name := "checkBoundsBeginEnd", desc := "(III)V" } : Jvm.MethodName)) ∈ wG := wg_in (wt_1 (List.mem_of_getElem? (i := 218) rfl)) rfl
theorem tw_219 : (Jvm.Cond.code ({ cls := "java/lang/String", name := "checkBoundsBeginEnd", desc := "(III)V" } : Jvm.MethodName) prog_15_method_158_code (3 : Nat) (Option.none : Option Jvm.ClassFile.FieldType)) ∈ wG := wg_in (wt_1 (List.mem_of_getElem? (i := 219) rfl)) rfl
theorem tw_220 : (Jvm.Cond.fieldLink "java/lang/String" (1053 : Nat) "jdk/internal/util/Preconditions" "SIOOBE_FORMATTER" "Ljava/util/function/BiFunction;") ∈ wG := wg_in (wt_1 (List.mem_of_getElem? (i := 220) rfl)) rfl
theorem tw_222 : (Jvm.Cond.methodLink "java/lang/String" (1062 : Nat) ({ cls := "jdk/internal/util/Preconditions", name := "checkFromToIndex", desc := "(IIILjava/util/function/BiFunction;)I" } : Jvm.MethodName)) ∈ wG := wg_in (wt_1 (List.mem_of_getElem? (i := 222) rfl)) rfl
theorem tw_223 : (Jvm.Cond.static ({ cls := "jdk/internal/util/Preconditions", name := "checkFromToIndex", desc := "(IIILjava/util/function/BiFunction;)I" } : Jvm.MethodName)) ∈ wG := wg_in (wt_1 (List.mem_of_getElem? (i := 223) rfl)) rfl
theorem tw_224 : (Jvm.Cond.code ({ cls := "jdk/internal/util/Preconditions", name := "checkFromToIndex", desc := "(IIILjava/util/function/BiFunction;)I" } : Jvm.MethodName) prog_19_method_12_code (4 : Nat) (Option.some Jvm.ClassFile.FieldType.int)) ∈ wG := wg_in (wt_1 (List.mem_of_getElem? (i := 224) rfl)) rfl
theorem tw_225 : (Jvm.Cond.methodLink "java/lang/StringUTF16" (244 : Nat) ({ cls := "java/lang/StringUTF16", name := "indexOfCharUnsafe", desc := "([BIII)I" } : Jvm.MethodName)) ∈ wG := wg_in (wt_1 (List.mem_of_getElem? (i := 225) rfl)) rfl
theorem tw_226 : (Jvm.Cond.static ({ cls := "java/lang/StringUTF16", name := "indexOfCharUnsafe", desc := "([BIII)I" } : Jvm.MethodName)) ∈ wG := wg_in (wt_1 (List.mem_of_getElem? (i := 226) rfl)) rfl
theorem tw_227 : (Jvm.Cond.code ({ cls := "java/lang/StringUTF16", name := "indexOfCharUnsafe", desc := "([BIII)I" } : Jvm.MethodName) prog_17_method_48_code (5 : Nat) (Option.some Jvm.ClassFile.FieldType.int)) ∈ wG := wg_in (wt_1 (List.mem_of_getElem? (i := 227) rfl)) rfl
theorem tw_228 : (Jvm.Cond.methodLink "java/lang/StringUTF16" (71 : Nat) ({ cls := "java/lang/StringUTF16", name := "getChar", desc := "([BI)C" } : Jvm.MethodName)) ∈ wG := wg_in (wt_1 (List.mem_of_getElem? (i := 228) rfl)) rfl
theorem tw_229 : (Jvm.Cond.static ({ cls := "java/lang/StringUTF16", name := "getChar", desc := "([BI)C" } : Jvm.MethodName)) ∈ wG := wg_in (wt_1 (List.mem_of_getElem? (i := 229) rfl)) rfl
theorem tw_230 : (Jvm.Cond.code ({ cls := "java/lang/StringUTF16", name := "getChar", desc := "([BI)C" } : Jvm.MethodName) prog_17_method_5_code (2 : Nat) (Option.some Jvm.ClassFile.FieldType.char)) ∈ wG := wg_in (wt_1 (List.mem_of_getElem? (i := 230) rfl)) rfl
theorem tw_231 : (Jvm.Cond.fieldLink "java/lang/StringUTF16" (44 : Nat) "java/lang/StringUTF16" "$assertionsDisabled" "Z") ∈ wG := wg_in (wt_1 (List.mem_of_getElem? (i := 231) rfl)) rfl
theorem tw_233 : (Jvm.Cond.fieldLink "java/lang/StringUTF16" (59 : Nat) "java/lang/StringUTF16" "HI_BYTE_SHIFT" "I") ∈ wG := wg_in (wt_1 (List.mem_of_getElem? (i := 233) rfl)) rfl
theorem tw_235 : (Jvm.Cond.fieldLink "java/lang/StringUTF16" (63 : Nat) "java/lang/StringUTF16" "LO_BYTE_SHIFT" "I") ∈ wG := wg_in (wt_1 (List.mem_of_getElem? (i := 235) rfl)) rfl
theorem tw_237 : (Jvm.Cond.methodLink "java/lang/StringUTF16" (232 : Nat) ({ cls := "java/lang/StringUTF16", name := "indexOfSupplementary", desc := "([BIII)I" } : Jvm.MethodName)) ∈ wG := wg_in (wt_1 (List.mem_of_getElem? (i := 237) rfl)) rfl
theorem tw_238 : (Jvm.Cond.static ({ cls := "java/lang/StringUTF16", name := "indexOfSupplementary", desc := "([BIII)I" } : Jvm.MethodName)) ∈ wG := wg_in (wt_1 (List.mem_of_getElem? (i := 238) rfl)) rfl
theorem tw_239 : (Jvm.Cond.code ({ cls := "java/lang/StringUTF16", name := "indexOfSupplementary", desc := "([BIII)I" } : Jvm.MethodName) prog_17_method_49_code (7 : Nat) (Option.some Jvm.ClassFile.FieldType.int)) ∈ wG := wg_in (wt_1 (List.mem_of_getElem? (i := 239) rfl)) rfl
theorem tw_240 : (Jvm.Cond.methodLink "java/lang/StringUTF16" (164 : Nat) ({ cls := "java/lang/Character", name := "isValidCodePoint", desc := "(I)Z" } : Jvm.MethodName)) ∈ wG := wg_in (wt_2 (List.mem_of_getElem? (i := 0) rfl)) rfl
theorem tw_241 : (Jvm.Cond.static ({ cls := "java/lang/Character", name := "isValidCodePoint", desc := "(I)Z" } : Jvm.MethodName)) ∈ wG := wg_in (wt_2 (List.mem_of_getElem? (i := 1) rfl)) rfl
theorem tw_242 : (Jvm.Cond.code ({ cls := "java/lang/Character", name := "isValidCodePoint", desc := "(I)Z" } : Jvm.MethodName) prog_9_method_11_code (2 : Nat) (Option.some Jvm.ClassFile.FieldType.boolean)) ∈ wG := wg_in (wt_2 (List.mem_of_getElem? (i := 2) rfl)) rfl
theorem tw_243 : (Jvm.Cond.methodLink "java/lang/StringUTF16" (157 : Nat) ({ cls := "java/lang/Character", name := "highSurrogate", desc := "(I)C" } : Jvm.MethodName)) ∈ wG := wg_in (wt_2 (List.mem_of_getElem? (i := 3) rfl)) rfl
theorem tw_244 : (Jvm.Cond.static ({ cls := "java/lang/Character", name := "highSurrogate", desc := "(I)C" } : Jvm.MethodName)) ∈ wG := wg_in (wt_2 (List.mem_of_getElem? (i := 4) rfl)) rfl
theorem tw_245 : (Jvm.Cond.code ({ cls := "java/lang/Character", name := "highSurrogate", desc := "(I)C" } : Jvm.MethodName) prog_9_method_28_code (1 : Nat) (Option.some Jvm.ClassFile.FieldType.char)) ∈ wG := wg_in (wt_2 (List.mem_of_getElem? (i := 5) rfl)) rfl
theorem tw_246 : (Jvm.Cond.constant "java/lang/Character" (110 : Nat) (55232 : Int32)) ∈ wG := wg_in (wt_2 (List.mem_of_getElem? (i := 6) rfl)) rfl
theorem tw_247 : (Jvm.Cond.methodLink "java/lang/StringUTF16" (161 : Nat) ({ cls := "java/lang/Character", name := "lowSurrogate", desc := "(I)C" } : Jvm.MethodName)) ∈ wG := wg_in (wt_2 (List.mem_of_getElem? (i := 7) rfl)) rfl
theorem tw_248 : (Jvm.Cond.static ({ cls := "java/lang/Character", name := "lowSurrogate", desc := "(I)C" } : Jvm.MethodName)) ∈ wG := wg_in (wt_2 (List.mem_of_getElem? (i := 8) rfl)) rfl
theorem tw_249 : (Jvm.Cond.code ({ cls := "java/lang/Character", name := "lowSurrogate", desc := "(I)C" } : Jvm.MethodName) prog_9_method_29_code (1 : Nat) (Option.some Jvm.ClassFile.FieldType.char)) ∈ wG := wg_in (wt_2 (List.mem_of_getElem? (i := 9) rfl)) rfl
theorem tw_250 : (Jvm.Cond.constant "java/lang/Character" (76 : Nat) (56320 : Int32)) ∈ wG := wg_in (wt_2 (List.mem_of_getElem? (i := 10) rfl)) rfl
theorem tw_251 : (Jvm.Cond.arrayClass Jvm.ClassFile.FieldType.byte) ∈ wG := wg_in (wt_2 (List.mem_of_getElem? (i := 11) rfl)) rfl
theorem tw_252 : (Jvm.Cond.methodLink "DeckFrontLaw" (37 : Nat) ({ cls := "DeckFront", name := "clear", desc := "()V" } : Jvm.MethodName)) ∈ wG := wg_in (wt_2 (List.mem_of_getElem? (i := 12) rfl)) rfl
theorem tw_253 : (Jvm.Cond.instanceMethod ({ cls := "DeckFront", name := "clear", desc := "()V" } : Jvm.MethodName)) ∈ wG := wg_in (wt_2 (List.mem_of_getElem? (i := 13) rfl)) rfl
theorem tw_254 : (Jvm.Cond.selects "DeckFront" ({ cls := "DeckFront", name := "clear", desc := "()V" } : Jvm.MethodName) ({ cls := "DeckFront", name := "clear", desc := "()V" } : Jvm.MethodName)) ∈ wG := wg_in (wt_2 (List.mem_of_getElem? (i := 14) rfl)) rfl
theorem tw_255 : (Jvm.Cond.code ({ cls := "DeckFront", name := "clear", desc := "()V" } : Jvm.MethodName) prog_1_method_4_code (1 : Nat) (Option.none : Option Jvm.ClassFile.FieldType)) ∈ wG := wg_in (wt_2 (List.mem_of_getElem? (i := 15) rfl)) rfl
theorem tw_256 : (Jvm.Cond.methodLink "DeckFrontLaw" (41 : Nat) ({ cls := "DeckFront", name := "statements", desc := "()I" } : Jvm.MethodName)) ∈ wG := wg_in (wt_2 (List.mem_of_getElem? (i := 16) rfl)) rfl
theorem tw_257 : (Jvm.Cond.instanceMethod ({ cls := "DeckFront", name := "statements", desc := "()I" } : Jvm.MethodName)) ∈ wG := wg_in (wt_2 (List.mem_of_getElem? (i := 17) rfl)) rfl
theorem tw_258 : (Jvm.Cond.selects "DeckFront" ({ cls := "DeckFront", name := "statements", desc := "()I" } : Jvm.MethodName) ({ cls := "DeckFront", name := "statements", desc := "()I" } : Jvm.MethodName)) ∈ wG := wg_in (wt_2 (List.mem_of_getElem? (i := 18) rfl)) rfl
theorem tw_259 : (Jvm.Cond.code ({ cls := "DeckFront", name := "statements", desc := "()I" } : Jvm.MethodName) prog_1_method_5_code (1 : Nat) (Option.some Jvm.ClassFile.FieldType.int)) ∈ wG := wg_in (wt_2 (List.mem_of_getElem? (i := 19) rfl)) rfl
theorem tw_260 : (Jvm.Cond.methodLink "DeckFrontLaw" (45 : Nat) ({ cls := "DeckFront", name := "label", desc := "(I)I" } : Jvm.MethodName)) ∈ wG := wg_in (wt_2 (List.mem_of_getElem? (i := 20) rfl)) rfl
theorem tw_261 : (Jvm.Cond.instanceMethod ({ cls := "DeckFront", name := "label", desc := "(I)I" } : Jvm.MethodName)) ∈ wG := wg_in (wt_2 (List.mem_of_getElem? (i := 21) rfl)) rfl
theorem tw_262 : (Jvm.Cond.selects "DeckFront" ({ cls := "DeckFront", name := "label", desc := "(I)I" } : Jvm.MethodName) ({ cls := "DeckFront", name := "label", desc := "(I)I" } : Jvm.MethodName)) ∈ wG := wg_in (wt_2 (List.mem_of_getElem? (i := 22) rfl)) rfl
theorem tw_263 : (Jvm.Cond.code ({ cls := "DeckFront", name := "label", desc := "(I)I" } : Jvm.MethodName) prog_1_method_6_code (3 : Nat) (Option.some Jvm.ClassFile.FieldType.int)) ∈ wG := wg_in (wt_2 (List.mem_of_getElem? (i := 23) rfl)) rfl
theorem tw_264 : (Jvm.Cond.methodLink "DeckFront" (54 : Nat) ({ cls := "DeckFront$Deck", name := "find", desc := "(I)LDeckFront$Statement;" } : Jvm.MethodName)) ∈ wG := wg_in (wt_2 (List.mem_of_getElem? (i := 24) rfl)) rfl
theorem tw_265 : (Jvm.Cond.instanceMethod ({ cls := "DeckFront$Deck", name := "find", desc := "(I)LDeckFront$Statement;" } : Jvm.MethodName)) ∈ wG := wg_in (wt_2 (List.mem_of_getElem? (i := 25) rfl)) rfl
theorem tw_266 : (Jvm.Cond.selects "DeckFront$Deck" ({ cls := "DeckFront$Deck", name := "find", desc := "(I)LDeckFront$Statement;" } : Jvm.MethodName) ({ cls := "DeckFront$Deck", name := "find", desc := "(I)LDeckFront$Statement;" } : Jvm.MethodName)) ∈ wG := wg_in (wt_2 (List.mem_of_getElem? (i := 26) rfl)) rfl
theorem tw_267 : (Jvm.Cond.code ({ cls := "DeckFront$Deck", name := "find", desc := "(I)LDeckFront$Statement;" } : Jvm.MethodName) prog_3_method_2_code (2 : Nat) (Option.some (Jvm.ClassFile.FieldType.object "DeckFront$Statement"))) ∈ wG := wg_in (wt_2 (List.mem_of_getElem? (i := 27) rfl)) rfl
theorem tw_268 : (Jvm.Cond.methodLink "DeckFrontLaw" (50 : Nat) ({ cls := "DeckFront", name := "what", desc := "(I)I" } : Jvm.MethodName)) ∈ wG := wg_in (wt_2 (List.mem_of_getElem? (i := 28) rfl)) rfl
theorem tw_269 : (Jvm.Cond.instanceMethod ({ cls := "DeckFront", name := "what", desc := "(I)I" } : Jvm.MethodName)) ∈ wG := wg_in (wt_2 (List.mem_of_getElem? (i := 29) rfl)) rfl
theorem tw_270 : (Jvm.Cond.selects "DeckFront" ({ cls := "DeckFront", name := "what", desc := "(I)I" } : Jvm.MethodName) ({ cls := "DeckFront", name := "what", desc := "(I)I" } : Jvm.MethodName)) ∈ wG := wg_in (wt_2 (List.mem_of_getElem? (i := 30) rfl)) rfl
theorem tw_271 : (Jvm.Cond.code ({ cls := "DeckFront", name := "what", desc := "(I)I" } : Jvm.MethodName) prog_1_method_7_code (3 : Nat) (Option.some Jvm.ClassFile.FieldType.int)) ∈ wG := wg_in (wt_2 (List.mem_of_getElem? (i := 31) rfl)) rfl
theorem tw_272 : (Jvm.Cond.methodLink "DeckFrontLaw" (54 : Nat) ({ cls := "DeckFront", name := "shown", desc := "(II)I" } : Jvm.MethodName)) ∈ wG := wg_in (wt_2 (List.mem_of_getElem? (i := 32) rfl)) rfl
theorem tw_273 : (Jvm.Cond.instanceMethod ({ cls := "DeckFront", name := "shown", desc := "(II)I" } : Jvm.MethodName)) ∈ wG := wg_in (wt_2 (List.mem_of_getElem? (i := 33) rfl)) rfl
theorem tw_274 : (Jvm.Cond.selects "DeckFront" ({ cls := "DeckFront", name := "shown", desc := "(II)I" } : Jvm.MethodName) ({ cls := "DeckFront", name := "shown", desc := "(II)I" } : Jvm.MethodName)) ∈ wG := wg_in (wt_2 (List.mem_of_getElem? (i := 34) rfl)) rfl
theorem tw_275 : (Jvm.Cond.code ({ cls := "DeckFront", name := "shown", desc := "(II)I" } : Jvm.MethodName) prog_1_method_8_code (4 : Nat) (Option.some Jvm.ClassFile.FieldType.int)) ∈ wG := wg_in (wt_2 (List.mem_of_getElem? (i := 35) rfl)) rfl
theorem tw_276 : (Jvm.Cond.methodLink "DeckFront" (72 : Nat) ({ cls := "DeckFront$Statement", name := "signShown", desc := "(I)I" } : Jvm.MethodName)) ∈ wG := wg_in (wt_2 (List.mem_of_getElem? (i := 36) rfl)) rfl
theorem tw_277 : (Jvm.Cond.sameMethod "DeckFront$Statement" "DeckFront$Tape" "signShown" "(I)I") ∈ wG := wg_in (wt_2 (List.mem_of_getElem? (i := 37) rfl)) rfl
theorem tw_279 : (Jvm.Cond.selects "DeckFront$Statement" ({ cls := "DeckFront$Statement", name := "signShown", desc := "(I)I" } : Jvm.MethodName) ({ cls := "DeckFront$Tape", name := "signShown", desc := "(I)I" } : Jvm.MethodName)) ∈ wG := wg_in (wt_2 (List.mem_of_getElem? (i := 39) rfl)) rfl
theorem tw_280 : (Jvm.Cond.instanceMethod ({ cls := "DeckFront$Tape", name := "signShown", desc := "(I)I" } : Jvm.MethodName)) ∈ wG := wg_in (wt_2 (List.mem_of_getElem? (i := 40) rfl)) rfl
theorem tw_281 : (Jvm.Cond.code ({ cls := "DeckFront$Tape", name := "signShown", desc := "(I)I" } : Jvm.MethodName) prog_6_method_17_code (4 : Nat) (Option.some Jvm.ClassFile.FieldType.int)) ∈ wG := wg_in (wt_2 (List.mem_of_getElem? (i := 41) rfl)) rfl
theorem tw_282 : (Jvm.Cond.methodLink "DeckFrontLaw" (59 : Nat) ({ cls := "DeckFront", name := "kind", desc := "(J)I" } : Jvm.MethodName)) ∈ wG := wg_in (wt_2 (List.mem_of_getElem? (i := 42) rfl)) rfl
theorem tw_283 : (Jvm.Cond.instanceMethod ({ cls := "DeckFront", name := "kind", desc := "(J)I" } : Jvm.MethodName)) ∈ wG := wg_in (wt_2 (List.mem_of_getElem? (i := 43) rfl)) rfl
theorem tw_284 : (Jvm.Cond.selects "DeckFront" ({ cls := "DeckFront", name := "kind", desc := "(J)I" } : Jvm.MethodName) ({ cls := "DeckFront", name := "kind", desc := "(J)I" } : Jvm.MethodName)) ∈ wG := wg_in (wt_2 (List.mem_of_getElem? (i := 44) rfl)) rfl
theorem tw_285 : (Jvm.Cond.code ({ cls := "DeckFront", name := "kind", desc := "(J)I" } : Jvm.MethodName) prog_1_method_9_code (5 : Nat) (Option.some Jvm.ClassFile.FieldType.int)) ∈ wG := wg_in (wt_2 (List.mem_of_getElem? (i := 45) rfl)) rfl
theorem tw_286 : (Jvm.Cond.methodLink "DeckFront" (76 : Nat) ({ cls := "DeckFront", name := "nameOf", desc := "(J)J" } : Jvm.MethodName)) ∈ wG := wg_in (wt_2 (List.mem_of_getElem? (i := 46) rfl)) rfl
theorem tw_287 : (Jvm.Cond.static ({ cls := "DeckFront", name := "nameOf", desc := "(J)J" } : Jvm.MethodName)) ∈ wG := wg_in (wt_2 (List.mem_of_getElem? (i := 47) rfl)) rfl
theorem tw_288 : (Jvm.Cond.code ({ cls := "DeckFront", name := "nameOf", desc := "(J)J" } : Jvm.MethodName) prog_1_method_15_code (8 : Nat) (Option.some Jvm.ClassFile.FieldType.long)) ∈ wG := wg_in (wt_2 (List.mem_of_getElem? (i := 48) rfl)) rfl
theorem tw_289 : (Jvm.Cond.methodLink "DeckFront" (97 : Nat) ({ cls := "DeckFront", name := "isLetter", desc := "(I)Z" } : Jvm.MethodName)) ∈ wG := wg_in (wt_2 (List.mem_of_getElem? (i := 49) rfl)) rfl
theorem tw_290 : (Jvm.Cond.methodLink "DeckFront" (101 : Nat) ({ cls := "DeckFront", name := "isDigit", desc := "(I)Z" } : Jvm.MethodName)) ∈ wG := wg_in (wt_2 (List.mem_of_getElem? (i := 50) rfl)) rfl
theorem tw_291 : (Jvm.Cond.methodLink "DeckFront" (80 : Nat) ({ cls := "DeckFront$Deck", name := "kindOf", desc := "(J)I" } : Jvm.MethodName)) ∈ wG := wg_in (wt_2 (List.mem_of_getElem? (i := 51) rfl)) rfl
theorem tw_292 : (Jvm.Cond.instanceMethod ({ cls := "DeckFront$Deck", name := "kindOf", desc := "(J)I" } : Jvm.MethodName)) ∈ wG := wg_in (wt_2 (List.mem_of_getElem? (i := 52) rfl)) rfl
theorem tw_293 : (Jvm.Cond.selects "DeckFront$Deck" ({ cls := "DeckFront$Deck", name := "kindOf", desc := "(J)I" } : Jvm.MethodName) ({ cls := "DeckFront$Deck", name := "kindOf", desc := "(J)I" } : Jvm.MethodName)) ∈ wG := wg_in (wt_2 (List.mem_of_getElem? (i := 53) rfl)) rfl
theorem tw_294 : (Jvm.Cond.code ({ cls := "DeckFront$Deck", name := "kindOf", desc := "(J)I" } : Jvm.MethodName) prog_3_method_6_code (6 : Nat) (Option.some Jvm.ClassFile.FieldType.int)) ∈ wG := wg_in (wt_2 (List.mem_of_getElem? (i := 54) rfl)) rfl
theorem tw_295 : (Jvm.Cond.methodLink "DeckFront$Deck" (59 : Nat) ({ cls := "DeckFront$Statement", name := "kindHere", desc := "(J)I" } : Jvm.MethodName)) ∈ wG := wg_in (wt_2 (List.mem_of_getElem? (i := 55) rfl)) rfl
theorem tw_296 : (Jvm.Cond.sameMethod "DeckFront$Statement" "DeckFront$Tape" "kindHere" "(J)I") ∈ wG := wg_in (wt_2 (List.mem_of_getElem? (i := 56) rfl)) rfl
theorem tw_298 : (Jvm.Cond.selects "DeckFront$Statement" ({ cls := "DeckFront$Statement", name := "kindHere", desc := "(J)I" } : Jvm.MethodName) ({ cls := "DeckFront$Tape", name := "kindHere", desc := "(J)I" } : Jvm.MethodName)) ∈ wG := wg_in (wt_2 (List.mem_of_getElem? (i := 58) rfl)) rfl
theorem tw_299 : (Jvm.Cond.instanceMethod ({ cls := "DeckFront$Tape", name := "kindHere", desc := "(J)I" } : Jvm.MethodName)) ∈ wG := wg_in (wt_2 (List.mem_of_getElem? (i := 59) rfl)) rfl
theorem tw_300 : (Jvm.Cond.code ({ cls := "DeckFront$Tape", name := "kindHere", desc := "(J)I" } : Jvm.MethodName) prog_6_method_18_code (6 : Nat) (Option.some Jvm.ClassFile.FieldType.int)) ∈ wG := wg_in (wt_2 (List.mem_of_getElem? (i := 60) rfl)) rfl
theorem tw_301 : (Jvm.Cond.methodLink "DeckFront$Tape" (101 : Nat) ({ cls := "DeckFront$Tape", name := "nameAt", desc := "(I)J" } : Jvm.MethodName)) ∈ wG := wg_in (wt_2 (List.mem_of_getElem? (i := 61) rfl)) rfl
theorem tw_303 : (Jvm.Cond.instanceMethod ({ cls := "DeckFront$Tape", name := "nameAt", desc := "(I)J" } : Jvm.MethodName)) ∈ wG := wg_in (wt_2 (List.mem_of_getElem? (i := 63) rfl)) rfl
theorem tw_304 : (Jvm.Cond.code ({ cls := "DeckFront$Tape", name := "nameAt", desc := "(I)J" } : Jvm.MethodName) prog_6_method_19_code (5 : Nat) (Option.some Jvm.ClassFile.FieldType.long)) ∈ wG := wg_in (wt_2 (List.mem_of_getElem? (i := 64) rfl)) rfl
theorem tw_307 : (Jvm.Cond.methodLink "DeckFrontLaw" (64 : Nat) ({ cls := "DeckFront", name := "type", desc := "(J)I" } : Jvm.MethodName)) ∈ wG := wg_in (wt_2 (List.mem_of_getElem? (i := 67) rfl)) rfl
theorem tw_308 : (Jvm.Cond.instanceMethod ({ cls := "DeckFront", name := "type", desc := "(J)I" } : Jvm.MethodName)) ∈ wG := wg_in (wt_2 (List.mem_of_getElem? (i := 68) rfl)) rfl
theorem tw_309 : (Jvm.Cond.selects "DeckFront" ({ cls := "DeckFront", name := "type", desc := "(J)I" } : Jvm.MethodName) ({ cls := "DeckFront", name := "type", desc := "(J)I" } : Jvm.MethodName)) ∈ wG := wg_in (wt_2 (List.mem_of_getElem? (i := 69) rfl)) rfl
theorem tw_310 : (Jvm.Cond.code ({ cls := "DeckFront", name := "type", desc := "(J)I" } : Jvm.MethodName) prog_1_method_10_code (5 : Nat) (Option.some Jvm.ClassFile.FieldType.int)) ∈ wG := wg_in (wt_2 (List.mem_of_getElem? (i := 70) rfl)) rfl
theorem tw_311 : (Jvm.Cond.methodLink "DeckFront" (84 : Nat) ({ cls := "DeckFront$Deck", name := "typeOf", desc := "(J)I" } : Jvm.MethodName)) ∈ wG := wg_in (wt_2 (List.mem_of_getElem? (i := 71) rfl)) rfl
theorem tw_312 : (Jvm.Cond.instanceMethod ({ cls := "DeckFront$Deck", name := "typeOf", desc := "(J)I" } : Jvm.MethodName)) ∈ wG := wg_in (wt_2 (List.mem_of_getElem? (i := 72) rfl)) rfl
theorem tw_313 : (Jvm.Cond.selects "DeckFront$Deck" ({ cls := "DeckFront$Deck", name := "typeOf", desc := "(J)I" } : Jvm.MethodName) ({ cls := "DeckFront$Deck", name := "typeOf", desc := "(J)I" } : Jvm.MethodName)) ∈ wG := wg_in (wt_2 (List.mem_of_getElem? (i := 73) rfl)) rfl
theorem tw_314 : (Jvm.Cond.code ({ cls := "DeckFront$Deck", name := "typeOf", desc := "(J)I" } : Jvm.MethodName) prog_3_method_7_code (4 : Nat) (Option.some Jvm.ClassFile.FieldType.int)) ∈ wG := wg_in (wt_2 (List.mem_of_getElem? (i := 74) rfl)) rfl
theorem tw_315 : (Jvm.Cond.methodLink "DeckFront$Deck" (66 : Nat) ({ cls := "DeckFront$Statement", name := "typeTold", desc := "()I" } : Jvm.MethodName)) ∈ wG := wg_in (wt_2 (List.mem_of_getElem? (i := 75) rfl)) rfl
theorem tw_316 : (Jvm.Cond.instanceMethod ({ cls := "DeckFront$Statement", name := "typeTold", desc := "()I" } : Jvm.MethodName)) ∈ wG := wg_in (wt_2 (List.mem_of_getElem? (i := 76) rfl)) rfl
theorem tw_317 : (Jvm.Cond.selects "DeckFront$Statement" ({ cls := "DeckFront$Statement", name := "typeTold", desc := "()I" } : Jvm.MethodName) ({ cls := "DeckFront$Statement", name := "typeTold", desc := "()I" } : Jvm.MethodName)) ∈ wG := wg_in (wt_2 (List.mem_of_getElem? (i := 77) rfl)) rfl
theorem tw_318 : (Jvm.Cond.code ({ cls := "DeckFront$Statement", name := "typeTold", desc := "()I" } : Jvm.MethodName) prog_4_method_17_code (1 : Nat) (Option.some Jvm.ClassFile.FieldType.int)) ∈ wG := wg_in (wt_2 (List.mem_of_getElem? (i := 78) rfl)) rfl
theorem tw_320 : (Jvm.Cond.static ({ cls := "DeckFront", name := "typeByLetter", desc := "(J)I" } : Jvm.MethodName)) ∈ wG := wg_in (wt_2 (List.mem_of_getElem? (i := 80) rfl)) rfl
theorem tw_321 : (Jvm.Cond.code ({ cls := "DeckFront", name := "typeByLetter", desc := "(J)I" } : Jvm.MethodName) prog_1_method_16_code (5 : Nat) (Option.some Jvm.ClassFile.FieldType.int)) ∈ wG := wg_in (wt_2 (List.mem_of_getElem? (i := 81) rfl)) rfl
theorem tw_322 : (Jvm.Cond.constantLong "DeckFront" (104 : Nat) (255 : Int64)) ∈ wG := wg_in (wt_2 (List.mem_of_getElem? (i := 82) rfl)) rfl
theorem tw_323 : (Jvm.Cond.constantLong "DeckFront" (106 : Nat) (73 : Int64)) ∈ wG := wg_in (wt_2 (List.mem_of_getElem? (i := 83) rfl)) rfl
theorem tw_324 : (Jvm.Cond.constantLong "DeckFront" (108 : Nat) (78 : Int64)) ∈ wG := wg_in (wt_2 (List.mem_of_getElem? (i := 84) rfl)) rfl
theorem tw_325 : (Jvm.Cond.methodLink "DeckFrontLaw" (68 : Nat) ({ cls := "DeckFront", name := "fault", desc := "()I" } : Jvm.MethodName)) ∈ wG := wg_in (wt_2 (List.mem_of_getElem? (i := 85) rfl)) rfl
theorem tw_326 : (Jvm.Cond.instanceMethod ({ cls := "DeckFront", name := "fault", desc := "()I" } : Jvm.MethodName)) ∈ wG := wg_in (wt_2 (List.mem_of_getElem? (i := 86) rfl)) rfl
theorem tw_327 : (Jvm.Cond.selects "DeckFront" ({ cls := "DeckFront", name := "fault", desc := "()I" } : Jvm.MethodName) ({ cls := "DeckFront", name := "fault", desc := "()I" } : Jvm.MethodName)) ∈ wG := wg_in (wt_2 (List.mem_of_getElem? (i := 87) rfl)) rfl
theorem tw_328 : (Jvm.Cond.code ({ cls := "DeckFront", name := "fault", desc := "()I" } : Jvm.MethodName) prog_1_method_11_code (1 : Nat) (Option.some Jvm.ClassFile.FieldType.int)) ∈ wG := wg_in (wt_2 (List.mem_of_getElem? (i := 88) rfl)) rfl
theorem tw_329 : (Jvm.Cond.methodLink "DeckFront" (87 : Nat) ({ cls := "DeckFront$Structure", name := "look", desc := "(LDeckFront$Deck;)V" } : Jvm.MethodName)) ∈ wG := wg_in (wt_2 (List.mem_of_getElem? (i := 89) rfl)) rfl
theorem tw_330 : (Jvm.Cond.instanceMethod ({ cls := "DeckFront$Structure", name := "look", desc := "(LDeckFront$Deck;)V" } : Jvm.MethodName)) ∈ wG := wg_in (wt_2 (List.mem_of_getElem? (i := 90) rfl)) rfl
theorem tw_331 : (Jvm.Cond.selects "DeckFront$Structure" ({ cls := "DeckFront$Structure", name := "look", desc := "(LDeckFront$Deck;)V" } : Jvm.MethodName) ({ cls := "DeckFront$Structure", name := "look", desc := "(LDeckFront$Deck;)V" } : Jvm.MethodName)) ∈ wG := wg_in (wt_2 (List.mem_of_getElem? (i := 91) rfl)) rfl
theorem tw_332 : (Jvm.Cond.code ({ cls := "DeckFront$Structure", name := "look", desc := "(LDeckFront$Deck;)V" } : Jvm.MethodName) prog_5_method_2_code (3 : Nat) (Option.none : Option Jvm.ClassFile.FieldType)) ∈ wG := wg_in (wt_2 (List.mem_of_getElem? (i := 92) rfl)) rfl
theorem tw_333 : (Jvm.Cond.methodLink "DeckFront$Structure" (30 : Nat) ({ cls := "DeckFront$Structure", name := "faultOf", desc := "(LDeckFront$Deck;I)I" } : Jvm.MethodName)) ∈ wG := wg_in (wt_2 (List.mem_of_getElem? (i := 93) rfl)) rfl
theorem tw_335 : (Jvm.Cond.instanceMethod ({ cls := "DeckFront$Structure", name := "faultOf", desc := "(LDeckFront$Deck;I)I" } : Jvm.MethodName)) ∈ wG := wg_in (wt_2 (List.mem_of_getElem? (i := 95) rfl)) rfl
theorem tw_336 : (Jvm.Cond.code ({ cls := "DeckFront$Structure", name := "faultOf", desc := "(LDeckFront$Deck;I)I" } : Jvm.MethodName) prog_5_method_3_code (5 : Nat) (Option.some Jvm.ClassFile.FieldType.int)) ∈ wG := wg_in (wt_2 (List.mem_of_getElem? (i := 96) rfl)) rfl
theorem tw_337 : (Jvm.Cond.methodLink "DeckFront$Structure" (46 : Nat) ({ cls := "DeckFront$Deck", name := "hasNumber", desc := "(III)Z" } : Jvm.MethodName)) ∈ wG := wg_in (wt_2 (List.mem_of_getElem? (i := 97) rfl)) rfl
theorem tw_338 : (Jvm.Cond.instanceMethod ({ cls := "DeckFront$Deck", name := "hasNumber", desc := "(III)Z" } : Jvm.MethodName)) ∈ wG := wg_in (wt_2 (List.mem_of_getElem? (i := 98) rfl)) rfl
theorem tw_339 : (Jvm.Cond.selects "DeckFront$Deck" ({ cls := "DeckFront$Deck", name := "hasNumber", desc := "(III)Z" } : Jvm.MethodName) ({ cls := "DeckFront$Deck", name := "hasNumber", desc := "(III)Z" } : Jvm.MethodName)) ∈ wG := wg_in (wt_2 (List.mem_of_getElem? (i := 99) rfl)) rfl
theorem tw_340 : (Jvm.Cond.code ({ cls := "DeckFront$Deck", name := "hasNumber", desc := "(III)Z" } : Jvm.MethodName) prog_3_method_8_code (5 : Nat) (Option.some Jvm.ClassFile.FieldType.boolean)) ∈ wG := wg_in (wt_2 (List.mem_of_getElem? (i := 100) rfl)) rfl
theorem tw_341 : (Jvm.Cond.methodLink "DeckFront$Structure" (50 : Nat) ({ cls := "DeckFront$Statement", name := "declares", desc := "()Z" } : Jvm.MethodName)) ∈ wG := wg_in (wt_2 (List.mem_of_getElem? (i := 101) rfl)) rfl
theorem tw_342 : (Jvm.Cond.instanceMethod ({ cls := "DeckFront$Statement", name := "declares", desc := "()Z" } : Jvm.MethodName)) ∈ wG := wg_in (wt_2 (List.mem_of_getElem? (i := 102) rfl)) rfl
theorem tw_343 : (Jvm.Cond.selects "DeckFront$Statement" ({ cls := "DeckFront$Statement", name := "declares", desc := "()Z" } : Jvm.MethodName) ({ cls := "DeckFront$Statement", name := "declares", desc := "()Z" } : Jvm.MethodName)) ∈ wG := wg_in (wt_2 (List.mem_of_getElem? (i := 103) rfl)) rfl
theorem tw_344 : (Jvm.Cond.code ({ cls := "DeckFront$Statement", name := "declares", desc := "()Z" } : Jvm.MethodName) prog_4_method_19_code (1 : Nat) (Option.some Jvm.ClassFile.FieldType.boolean)) ∈ wG := wg_in (wt_2 (List.mem_of_getElem? (i := 104) rfl)) rfl
theorem tw_345 : (Jvm.Cond.methodLink "DeckFront$Structure" (54 : Nat) ({ cls := "DeckFront$Statement", name := "isBranch", desc := "()Z" } : Jvm.MethodName)) ∈ wG := wg_in (wt_2 (List.mem_of_getElem? (i := 105) rfl)) rfl
theorem tw_346 : (Jvm.Cond.instanceMethod ({ cls := "DeckFront$Statement", name := "isBranch", desc := "()Z" } : Jvm.MethodName)) ∈ wG := wg_in (wt_2 (List.mem_of_getElem? (i := 106) rfl)) rfl
theorem tw_347 : (Jvm.Cond.selects "DeckFront$Statement" ({ cls := "DeckFront$Statement", name := "isBranch", desc := "()Z" } : Jvm.MethodName) ({ cls := "DeckFront$Statement", name := "isBranch", desc := "()Z" } : Jvm.MethodName)) ∈ wG := wg_in (wt_2 (List.mem_of_getElem? (i := 107) rfl)) rfl
theorem tw_348 : (Jvm.Cond.code ({ cls := "DeckFront$Statement", name := "isBranch", desc := "()Z" } : Jvm.MethodName) prog_4_method_20_code (1 : Nat) (Option.some Jvm.ClassFile.FieldType.boolean)) ∈ wG := wg_in (wt_2 (List.mem_of_getElem? (i := 108) rfl)) rfl
theorem tw_349 : (Jvm.Cond.methodLink "DeckFront$Structure" (57 : Nat) ({ cls := "DeckFront$Structure", name := "branchFits", desc := "(LDeckFront$Statement;)Z" } : Jvm.MethodName)) ∈ wG := wg_in (wt_2 (List.mem_of_getElem? (i := 109) rfl)) rfl
theorem tw_351 : (Jvm.Cond.instanceMethod ({ cls := "DeckFront$Structure", name := "branchFits", desc := "(LDeckFront$Statement;)Z" } : Jvm.MethodName)) ∈ wG := wg_in (wt_2 (List.mem_of_getElem? (i := 111) rfl)) rfl
theorem tw_352 : (Jvm.Cond.code ({ cls := "DeckFront$Structure", name := "branchFits", desc := "(LDeckFront$Statement;)Z" } : Jvm.MethodName) prog_5_method_6_code (2 : Nat) (Option.some Jvm.ClassFile.FieldType.boolean)) ∈ wG := wg_in (wt_2 (List.mem_of_getElem? (i := 112) rfl)) rfl
theorem tw_353 : (Jvm.Cond.methodLink "DeckFront$Structure" (65 : Nat) ({ cls := "DeckFront$Structure", name := "innermost", desc := "()I" } : Jvm.MethodName)) ∈ wG := wg_in (wt_2 (List.mem_of_getElem? (i := 113) rfl)) rfl
theorem tw_355 : (Jvm.Cond.instanceMethod ({ cls := "DeckFront$Structure", name := "innermost", desc := "()I" } : Jvm.MethodName)) ∈ wG := wg_in (wt_2 (List.mem_of_getElem? (i := 115) rfl)) rfl
theorem tw_356 : (Jvm.Cond.code ({ cls := "DeckFront$Structure", name := "innermost", desc := "()I" } : Jvm.MethodName) prog_5_method_4_code (1 : Nat) (Option.some Jvm.ClassFile.FieldType.int)) ∈ wG := wg_in (wt_2 (List.mem_of_getElem? (i := 116) rfl)) rfl
theorem tw_357 : (Jvm.Cond.methodLink "DeckFront$Structure" (61 : Nat) ({ cls := "DeckFront$Structure", name := "isOpen", desc := "(I)Z" } : Jvm.MethodName)) ∈ wG := wg_in (wt_2 (List.mem_of_getElem? (i := 117) rfl)) rfl
theorem tw_359 : (Jvm.Cond.instanceMethod ({ cls := "DeckFront$Structure", name := "isOpen", desc := "(I)Z" } : Jvm.MethodName)) ∈ wG := wg_in (wt_2 (List.mem_of_getElem? (i := 119) rfl)) rfl
theorem tw_360 : (Jvm.Cond.code ({ cls := "DeckFront$Structure", name := "isOpen", desc := "(I)Z" } : Jvm.MethodName) prog_5_method_5_code (3 : Nat) (Option.some Jvm.ClassFile.FieldType.boolean)) ∈ wG := wg_in (wt_2 (List.mem_of_getElem? (i := 120) rfl)) rfl
theorem tw_361 : (Jvm.Cond.methodLink "DeckFront$Structure" (69 : Nat) ({ cls := "DeckFront$Statement", name := "mayEndLoop", desc := "()Z" } : Jvm.MethodName)) ∈ wG := wg_in (wt_2 (List.mem_of_getElem? (i := 121) rfl)) rfl
theorem tw_362 : (Jvm.Cond.instanceMethod ({ cls := "DeckFront$Statement", name := "mayEndLoop", desc := "()Z" } : Jvm.MethodName)) ∈ wG := wg_in (wt_2 (List.mem_of_getElem? (i := 122) rfl)) rfl
theorem tw_363 : (Jvm.Cond.selects "DeckFront$Statement" ({ cls := "DeckFront$Statement", name := "mayEndLoop", desc := "()Z" } : Jvm.MethodName) ({ cls := "DeckFront$Statement", name := "mayEndLoop", desc := "()Z" } : Jvm.MethodName)) ∈ wG := wg_in (wt_2 (List.mem_of_getElem? (i := 123) rfl)) rfl
theorem tw_364 : (Jvm.Cond.code ({ cls := "DeckFront$Statement", name := "mayEndLoop", desc := "()Z" } : Jvm.MethodName) prog_4_method_21_code (1 : Nat) (Option.some Jvm.ClassFile.FieldType.boolean)) ∈ wG := wg_in (wt_2 (List.mem_of_getElem? (i := 124) rfl)) rfl
theorem tw_365 : (Jvm.Cond.methodLink "DeckFront$Statement" (197 : Nat) ({ cls := "DeckFront$Statement", name := "declares", desc := "()Z" } : Jvm.MethodName)) ∈ wG := wg_in (wt_2 (List.mem_of_getElem? (i := 125) rfl)) rfl
theorem tw_366 : (Jvm.Cond.methodLink "DeckFront$Structure" (72 : Nat) ({ cls := "DeckFront$Structure", name := "endWhatEnds", desc := "(LDeckFront$Statement;)V" } : Jvm.MethodName)) ∈ wG := wg_in (wt_2 (List.mem_of_getElem? (i := 126) rfl)) rfl
theorem tw_368 : (Jvm.Cond.instanceMethod ({ cls := "DeckFront$Structure", name := "endWhatEnds", desc := "(LDeckFront$Statement;)V" } : Jvm.MethodName)) ∈ wG := wg_in (wt_2 (List.mem_of_getElem? (i := 128) rfl)) rfl
theorem tw_369 : (Jvm.Cond.code ({ cls := "DeckFront$Structure", name := "endWhatEnds", desc := "(LDeckFront$Statement;)V" } : Jvm.MethodName) prog_5_method_7_code (2 : Nat) (Option.none : Option Jvm.ClassFile.FieldType)) ∈ wG := wg_in (wt_2 (List.mem_of_getElem? (i := 129) rfl)) rfl
theorem tw_370 : (Jvm.Cond.methodLink "DeckFront$Structure" (76 : Nat) ({ cls := "DeckFront$Structure", name := "hasItsLabels", desc := "(LDeckFront$Deck;I)Z" } : Jvm.MethodName)) ∈ wG := wg_in (wt_2 (List.mem_of_getElem? (i := 130) rfl)) rfl
theorem tw_372 : (Jvm.Cond.instanceMethod ({ cls := "DeckFront$Structure", name := "hasItsLabels", desc := "(LDeckFront$Deck;I)Z" } : Jvm.MethodName)) ∈ wG := wg_in (wt_2 (List.mem_of_getElem? (i := 132) rfl)) rfl
theorem tw_373 : (Jvm.Cond.code ({ cls := "DeckFront$Structure", name := "hasItsLabels", desc := "(LDeckFront$Deck;I)Z" } : Jvm.MethodName) prog_5_method_8_code (5 : Nat) (Option.some Jvm.ClassFile.FieldType.boolean)) ∈ wG := wg_in (wt_2 (List.mem_of_getElem? (i := 133) rfl)) rfl
theorem tw_374 : (Jvm.Cond.methodLink "DeckFront$Structure" (83 : Nat) ({ cls := "DeckFront$Statement", name := "loopNumber", desc := "()I" } : Jvm.MethodName)) ∈ wG := wg_in (wt_2 (List.mem_of_getElem? (i := 134) rfl)) rfl
theorem tw_375 : (Jvm.Cond.instanceMethod ({ cls := "DeckFront$Statement", name := "loopNumber", desc := "()I" } : Jvm.MethodName)) ∈ wG := wg_in (wt_2 (List.mem_of_getElem? (i := 135) rfl)) rfl
theorem tw_376 : (Jvm.Cond.selects "DeckFront$Statement" ({ cls := "DeckFront$Statement", name := "loopNumber", desc := "()I" } : Jvm.MethodName) ({ cls := "DeckFront$Statement", name := "loopNumber", desc := "()I" } : Jvm.MethodName)) ∈ wG := wg_in (wt_2 (List.mem_of_getElem? (i := 136) rfl)) rfl
theorem tw_377 : (Jvm.Cond.code ({ cls := "DeckFront$Statement", name := "loopNumber", desc := "()I" } : Jvm.MethodName) prog_4_method_18_code (2 : Nat) (Option.some Jvm.ClassFile.FieldType.int)) ∈ wG := wg_in (wt_2 (List.mem_of_getElem? (i := 137) rfl)) rfl
theorem tw_378 : (Jvm.Cond.methodLink "DeckFront$Statement" (194 : Nat) ({ cls := "DeckFront$Statement", name := "numberAt", desc := "(I)I" } : Jvm.MethodName)) ∈ wG := wg_in (wt_2 (List.mem_of_getElem? (i := 138) rfl)) rfl
theorem tw_379 : (Jvm.Cond.sameMethod "DeckFront$Statement" "DeckFront$Tape" "numberAt" "(I)I") ∈ wG := wg_in (wt_2 (List.mem_of_getElem? (i := 139) rfl)) rfl
theorem tw_381 : (Jvm.Cond.selects "DeckFront$Statement" ({ cls := "DeckFront$Statement", name := "numberAt", desc := "(I)I" } : Jvm.MethodName) ({ cls := "DeckFront$Tape", name := "numberAt", desc := "(I)I" } : Jvm.MethodName)) ∈ wG := wg_in (wt_2 (List.mem_of_getElem? (i := 141) rfl)) rfl
theorem tw_382 : (Jvm.Cond.instanceMethod ({ cls := "DeckFront$Tape", name := "numberAt", desc := "(I)I" } : Jvm.MethodName)) ∈ wG := wg_in (wt_2 (List.mem_of_getElem? (i := 142) rfl)) rfl
theorem tw_383 : (Jvm.Cond.code ({ cls := "DeckFront$Tape", name := "numberAt", desc := "(I)I" } : Jvm.MethodName) prog_6_method_20_code (4 : Nat) (Option.some Jvm.ClassFile.FieldType.int)) ∈ wG := wg_in (wt_2 (List.mem_of_getElem? (i := 143) rfl)) rfl
theorem tw_384 : (Jvm.Cond.methodLink "DeckFront$Structure" (92 : Nat) ({ cls := "DeckFront$Statement", name := "numberAt", desc := "(I)I" } : Jvm.MethodName)) ∈ wG := wg_in (wt_2 (List.mem_of_getElem? (i := 144) rfl)) rfl
theorem tw_385 : (Jvm.Cond.methodLink "DeckFront$Structure" (80 : Nat) ({ cls := "DeckFront$Structure", name := "openWhatOpens", desc := "(LDeckFront$Statement;)V" } : Jvm.MethodName)) ∈ wG := wg_in (wt_2 (List.mem_of_getElem? (i := 145) rfl)) rfl
theorem tw_387 : (Jvm.Cond.instanceMethod ({ cls := "DeckFront$Structure", name := "openWhatOpens", desc := "(LDeckFront$Statement;)V" } : Jvm.MethodName)) ∈ wG := wg_in (wt_2 (List.mem_of_getElem? (i := 147) rfl)) rfl
theorem tw_388 : (Jvm.Cond.code ({ cls := "DeckFront$Structure", name := "openWhatOpens", desc := "(LDeckFront$Statement;)V" } : Jvm.MethodName) prog_5_method_9_code (2 : Nat) (Option.none : Option Jvm.ClassFile.FieldType)) ∈ wG := wg_in (wt_2 (List.mem_of_getElem? (i := 148) rfl)) rfl
theorem tw_389 : (Jvm.Cond.methodLink "DeckFrontLaw" (72 : Nat) ({ cls := "DeckFront", name := "faultAt", desc := "()I" } : Jvm.MethodName)) ∈ wG := wg_in (wt_2 (List.mem_of_getElem? (i := 149) rfl)) rfl
theorem tw_390 : (Jvm.Cond.instanceMethod ({ cls := "DeckFront", name := "faultAt", desc := "()I" } : Jvm.MethodName)) ∈ wG := wg_in (wt_2 (List.mem_of_getElem? (i := 150) rfl)) rfl
theorem tw_391 : (Jvm.Cond.selects "DeckFront" ({ cls := "DeckFront", name := "faultAt", desc := "()I" } : Jvm.MethodName) ({ cls := "DeckFront", name := "faultAt", desc := "()I" } : Jvm.MethodName)) ∈ wG := wg_in (wt_2 (List.mem_of_getElem? (i := 151) rfl)) rfl
theorem tw_392 : (Jvm.Cond.code ({ cls := "DeckFront", name := "faultAt", desc := "()I" } : Jvm.MethodName) prog_1_method_12_code (1 : Nat) (Option.some Jvm.ClassFile.FieldType.int)) ∈ wG := wg_in (wt_2 (List.mem_of_getElem? (i := 152) rfl)) rfl
theorem tw_393 : (Jvm.Cond.methodLink "DeckFrontLaw" (28 : Nat) ({ cls := "DeckFrontLaw", name := "card", desc := "(LDeckFront;[J)I" } : Jvm.MethodName)) ∈ wG := wg_in (wt_2 (List.mem_of_getElem? (i := 153) rfl)) rfl
theorem tw_394 : (Jvm.Cond.static ({ cls := "DeckFrontLaw", name := "card", desc := "(LDeckFront;[J)I" } : Jvm.MethodName)) ∈ wG := wg_in (wt_2 (List.mem_of_getElem? (i := 154) rfl)) rfl
theorem tw_396 : (Jvm.Cond.classLink "DeckFrontLaw" (13 : Nat) "java/lang/IllegalArgumentException") ∈ wG := wg_in (wt_2 (List.mem_of_getElem? (i := 156) rfl)) rfl
theorem tw_397 : (Jvm.Cond.classLink "DeckFrontLaw" (15 : Nat) "java/lang/IllegalStateException") ∈ wG := wg_in (wt_2 (List.mem_of_getElem? (i := 157) rfl)) rfl
theorem tw_398 : (Jvm.Cond.methodLink "DeckFrontLaw" (7 : Nat) ({ cls := "DeckFront", name := "card", desc := "()I" } : Jvm.MethodName)) ∈ wG := wg_in (wt_2 (List.mem_of_getElem? (i := 158) rfl)) rfl
theorem tw_399 : (Jvm.Cond.instanceMethod ({ cls := "DeckFront", name := "card", desc := "()I" } : Jvm.MethodName)) ∈ wG := wg_in (wt_2 (List.mem_of_getElem? (i := 159) rfl)) rfl
theorem tw_400 : (Jvm.Cond.selects "DeckFront" ({ cls := "DeckFront", name := "card", desc := "()I" } : Jvm.MethodName) ({ cls := "DeckFront", name := "card", desc := "()I" } : Jvm.MethodName)) ∈ wG := wg_in (wt_2 (List.mem_of_getElem? (i := 160) rfl)) rfl
theorem tw_401 : (Jvm.Cond.code ({ cls := "DeckFront", name := "card", desc := "()I" } : Jvm.MethodName) prog_1_method_3_code (3 : Nat) (Option.some Jvm.ClassFile.FieldType.int)) ∈ wG := wg_in (wt_2 (List.mem_of_getElem? (i := 161) rfl)) rfl
theorem tw_402 : (Jvm.Cond.methodLink "DeckFront" (34 : Nat) ({ cls := "DeckFront$Deck", name := "join", desc := "(LDeckFront$Card;)I" } : Jvm.MethodName)) ∈ wG := wg_in (wt_2 (List.mem_of_getElem? (i := 162) rfl)) rfl
theorem tw_403 : (Jvm.Cond.instanceMethod ({ cls := "DeckFront$Deck", name := "join", desc := "(LDeckFront$Card;)I" } : Jvm.MethodName)) ∈ wG := wg_in (wt_2 (List.mem_of_getElem? (i := 163) rfl)) rfl
theorem tw_404 : (Jvm.Cond.selects "DeckFront$Deck" ({ cls := "DeckFront$Deck", name := "join", desc := "(LDeckFront$Card;)I" } : Jvm.MethodName) ({ cls := "DeckFront$Deck", name := "join", desc := "(LDeckFront$Card;)I" } : Jvm.MethodName)) ∈ wG := wg_in (wt_2 (List.mem_of_getElem? (i := 164) rfl)) rfl
theorem tw_405 : (Jvm.Cond.code ({ cls := "DeckFront$Deck", name := "join", desc := "(LDeckFront$Card;)I" } : Jvm.MethodName) prog_3_method_3_code (2 : Nat) (Option.some Jvm.ClassFile.FieldType.int)) ∈ wG := wg_in (wt_2 (List.mem_of_getElem? (i := 165) rfl)) rfl
theorem tw_406 : (Jvm.Cond.methodLink "DeckFront$Deck" (22 : Nat) ({ cls := "DeckFront$Card", name := "isComment", desc := "()Z" } : Jvm.MethodName)) ∈ wG := wg_in (wt_2 (List.mem_of_getElem? (i := 166) rfl)) rfl
theorem tw_407 : (Jvm.Cond.instanceMethod ({ cls := "DeckFront$Card", name := "isComment", desc := "()Z" } : Jvm.MethodName)) ∈ wG := wg_in (wt_2 (List.mem_of_getElem? (i := 167) rfl)) rfl
theorem tw_408 : (Jvm.Cond.selects "DeckFront$Card" ({ cls := "DeckFront$Card", name := "isComment", desc := "()Z" } : Jvm.MethodName) ({ cls := "DeckFront$Card", name := "isComment", desc := "()Z" } : Jvm.MethodName)) ∈ wG := wg_in (wt_2 (List.mem_of_getElem? (i := 168) rfl)) rfl
theorem tw_409 : (Jvm.Cond.code ({ cls := "DeckFront$Card", name := "isComment", desc := "()Z" } : Jvm.MethodName) prog_2_method_4_code (1 : Nat) (Option.some Jvm.ClassFile.FieldType.boolean)) ∈ wG := wg_in (wt_2 (List.mem_of_getElem? (i := 169) rfl)) rfl
theorem tw_410 : (Jvm.Cond.methodLink "DeckFront$Card" (37 : Nat) ({ cls := "DeckFront$Card", name := "isBlankTo", desc := "(I)Z" } : Jvm.MethodName)) ∈ wG := wg_in (wt_2 (List.mem_of_getElem? (i := 170) rfl)) rfl
theorem tw_411 : (Jvm.Cond.instanceMethod ({ cls := "DeckFront$Card", name := "isBlankTo", desc := "(I)Z" } : Jvm.MethodName)) ∈ wG := wg_in (wt_2 (List.mem_of_getElem? (i := 171) rfl)) rfl
theorem tw_412 : (Jvm.Cond.selects "DeckFront$Card" ({ cls := "DeckFront$Card", name := "isBlankTo", desc := "(I)Z" } : Jvm.MethodName) ({ cls := "DeckFront$Card", name := "isBlankTo", desc := "(I)Z" } : Jvm.MethodName)) ∈ wG := wg_in (wt_2 (List.mem_of_getElem? (i := 172) rfl)) rfl
theorem tw_413 : (Jvm.Cond.code ({ cls := "DeckFront$Card", name := "isBlankTo", desc := "(I)Z" } : Jvm.MethodName) prog_2_method_5_code (3 : Nat) (Option.some Jvm.ClassFile.FieldType.boolean)) ∈ wG := wg_in (wt_2 (List.mem_of_getElem? (i := 173) rfl)) rfl
theorem tw_414 : (Jvm.Cond.methodLink "DeckFront$Deck" (28 : Nat) ({ cls := "DeckFront$Card", name := "hasGoodLabelField", desc := "()Z" } : Jvm.MethodName)) ∈ wG := wg_in (wt_2 (List.mem_of_getElem? (i := 174) rfl)) rfl
theorem tw_415 : (Jvm.Cond.instanceMethod ({ cls := "DeckFront$Card", name := "hasGoodLabelField", desc := "()Z" } : Jvm.MethodName)) ∈ wG := wg_in (wt_2 (List.mem_of_getElem? (i := 175) rfl)) rfl
theorem tw_416 : (Jvm.Cond.selects "DeckFront$Card" ({ cls := "DeckFront$Card", name := "hasGoodLabelField", desc := "()Z" } : Jvm.MethodName) ({ cls := "DeckFront$Card", name := "hasGoodLabelField", desc := "()Z" } : Jvm.MethodName)) ∈ wG := wg_in (wt_2 (List.mem_of_getElem? (i := 176) rfl)) rfl
theorem tw_417 : (Jvm.Cond.code ({ cls := "DeckFront$Card", name := "hasGoodLabelField", desc := "()Z" } : Jvm.MethodName) prog_2_method_7_code (2 : Nat) (Option.some Jvm.ClassFile.FieldType.boolean)) ∈ wG := wg_in (wt_2 (List.mem_of_getElem? (i := 177) rfl)) rfl
theorem tw_418 : (Jvm.Cond.methodLink "DeckFront$Card" (40 : Nat) ({ cls := "DeckFront$Card", name := "continuesOne", desc := "()Z" } : Jvm.MethodName)) ∈ wG := wg_in (wt_2 (List.mem_of_getElem? (i := 178) rfl)) rfl
theorem tw_419 : (Jvm.Cond.instanceMethod ({ cls := "DeckFront$Card", name := "continuesOne", desc := "()Z" } : Jvm.MethodName)) ∈ wG := wg_in (wt_2 (List.mem_of_getElem? (i := 179) rfl)) rfl
theorem tw_420 : (Jvm.Cond.selects "DeckFront$Card" ({ cls := "DeckFront$Card", name := "continuesOne", desc := "()Z" } : Jvm.MethodName) ({ cls := "DeckFront$Card", name := "continuesOne", desc := "()Z" } : Jvm.MethodName)) ∈ wG := wg_in (wt_2 (List.mem_of_getElem? (i := 180) rfl)) rfl
theorem tw_421 : (Jvm.Cond.code ({ cls := "DeckFront$Card", name := "continuesOne", desc := "()Z" } : Jvm.MethodName) prog_2_method_6_code (1 : Nat) (Option.some Jvm.ClassFile.FieldType.boolean)) ∈ wG := wg_in (wt_2 (List.mem_of_getElem? (i := 181) rfl)) rfl
theorem tw_422 : (Jvm.Cond.methodLink "DeckFront$Deck" (31 : Nat) ({ cls := "DeckFront$Card", name := "continuesOne", desc := "()Z" } : Jvm.MethodName)) ∈ wG := wg_in (wt_2 (List.mem_of_getElem? (i := 182) rfl)) rfl
theorem tw_423 : (Jvm.Cond.methodLink "DeckFront$Deck" (34 : Nat) ({ cls := "DeckFront$Deck", name := "carryOn", desc := "(LDeckFront$Card;)I" } : Jvm.MethodName)) ∈ wG := wg_in (wt_2 (List.mem_of_getElem? (i := 183) rfl)) rfl
theorem tw_425 : (Jvm.Cond.instanceMethod ({ cls := "DeckFront$Deck", name := "carryOn", desc := "(LDeckFront$Card;)I" } : Jvm.MethodName)) ∈ wG := wg_in (wt_2 (List.mem_of_getElem? (i := 185) rfl)) rfl
theorem tw_426 : (Jvm.Cond.code ({ cls := "DeckFront$Deck", name := "carryOn", desc := "(LDeckFront$Card;)I" } : Jvm.MethodName) prog_3_method_5_code (3 : Nat) (Option.some Jvm.ClassFile.FieldType.int)) ∈ wG := wg_in (wt_2 (List.mem_of_getElem? (i := 186) rfl)) rfl
theorem tw_427 : (Jvm.Cond.methodLink "DeckFront$Deck" (55 : Nat) ({ cls := "DeckFront$Deck", name := "find", desc := "(I)LDeckFront$Statement;" } : Jvm.MethodName)) ∈ wG := wg_in (wt_2 (List.mem_of_getElem? (i := 187) rfl)) rfl
theorem tw_428 : (Jvm.Cond.methodLink "DeckFront$Deck" (51 : Nat) ({ cls := "DeckFront$Statement", name := "append", desc := "(LDeckFront$Card;)Z" } : Jvm.MethodName)) ∈ wG := wg_in (wt_2 (List.mem_of_getElem? (i := 188) rfl)) rfl
theorem tw_429 : (Jvm.Cond.sameMethod "DeckFront$Statement" "DeckFront$Tape" "append" "(LDeckFront$Card;)Z") ∈ wG := wg_in (wt_2 (List.mem_of_getElem? (i := 189) rfl)) rfl
theorem tw_431 : (Jvm.Cond.selects "DeckFront$Statement" ({ cls := "DeckFront$Statement", name := "append", desc := "(LDeckFront$Card;)Z" } : Jvm.MethodName) ({ cls := "DeckFront$Tape", name := "append", desc := "(LDeckFront$Card;)Z" } : Jvm.MethodName)) ∈ wG := wg_in (wt_2 (List.mem_of_getElem? (i := 191) rfl)) rfl
theorem tw_432 : (Jvm.Cond.instanceMethod ({ cls := "DeckFront$Tape", name := "append", desc := "(LDeckFront$Card;)Z" } : Jvm.MethodName)) ∈ wG := wg_in (wt_2 (List.mem_of_getElem? (i := 192) rfl)) rfl
theorem tw_433 : (Jvm.Cond.code ({ cls := "DeckFront$Tape", name := "append", desc := "(LDeckFront$Card;)Z" } : Jvm.MethodName) prog_6_method_3_code (6 : Nat) (Option.some Jvm.ClassFile.FieldType.boolean)) ∈ wG := wg_in (wt_2 (List.mem_of_getElem? (i := 193) rfl)) rfl
theorem tw_434 : (Jvm.Cond.methodLink "DeckFront$Deck" (38 : Nat) ({ cls := "DeckFront$Deck", name := "begin", desc := "(LDeckFront$Card;)I" } : Jvm.MethodName)) ∈ wG := wg_in (wt_2 (List.mem_of_getElem? (i := 194) rfl)) rfl
theorem tw_436 : (Jvm.Cond.instanceMethod ({ cls := "DeckFront$Deck", name := "begin", desc := "(LDeckFront$Card;)I" } : Jvm.MethodName)) ∈ wG := wg_in (wt_2 (List.mem_of_getElem? (i := 196) rfl)) rfl
theorem tw_437 : (Jvm.Cond.code ({ cls := "DeckFront$Deck", name := "begin", desc := "(LDeckFront$Card;)I" } : Jvm.MethodName) prog_3_method_4_code (3 : Nat) (Option.some Jvm.ClassFile.FieldType.int)) ∈ wG := wg_in (wt_2 (List.mem_of_getElem? (i := 197) rfl)) rfl
theorem tw_438 : (Jvm.Cond.methodLink "DeckFront$Deck" (41 : Nat) ({ cls := "DeckFront$Card", name := "numberInLabelField", desc := "()I" } : Jvm.MethodName)) ∈ wG := wg_in (wt_2 (List.mem_of_getElem? (i := 198) rfl)) rfl
theorem tw_439 : (Jvm.Cond.instanceMethod ({ cls := "DeckFront$Card", name := "numberInLabelField", desc := "()I" } : Jvm.MethodName)) ∈ wG := wg_in (wt_2 (List.mem_of_getElem? (i := 199) rfl)) rfl
theorem tw_440 : (Jvm.Cond.selects "DeckFront$Card" ({ cls := "DeckFront$Card", name := "numberInLabelField", desc := "()I" } : Jvm.MethodName) ({ cls := "DeckFront$Card", name := "numberInLabelField", desc := "()I" } : Jvm.MethodName)) ∈ wG := wg_in (wt_2 (List.mem_of_getElem? (i := 200) rfl)) rfl
theorem tw_441 : (Jvm.Cond.code ({ cls := "DeckFront$Card", name := "numberInLabelField", desc := "()I" } : Jvm.MethodName) prog_2_method_8_code (3 : Nat) (Option.some Jvm.ClassFile.FieldType.int)) ∈ wG := wg_in (wt_2 (List.mem_of_getElem? (i := 201) rfl)) rfl
theorem tw_442 : (Jvm.Cond.methodLink "DeckFront$Deck" (48 : Nat) ({ cls := "DeckFront$Statement", name := "wipe", desc := "()V" } : Jvm.MethodName)) ∈ wG := wg_in (wt_2 (List.mem_of_getElem? (i := 202) rfl)) rfl
theorem tw_443 : (Jvm.Cond.sameMethod "DeckFront$Statement" "DeckFront$Tape" "wipe" "()V") ∈ wG := wg_in (wt_2 (List.mem_of_getElem? (i := 203) rfl)) rfl
theorem tw_445 : (Jvm.Cond.selects "DeckFront$Statement" ({ cls := "DeckFront$Statement", name := "wipe", desc := "()V" } : Jvm.MethodName) ({ cls := "DeckFront$Tape", name := "wipe", desc := "()V" } : Jvm.MethodName)) ∈ wG := wg_in (wt_2 (List.mem_of_getElem? (i := 205) rfl)) rfl
theorem tw_446 : (Jvm.Cond.instanceMethod ({ cls := "DeckFront$Tape", name := "wipe", desc := "()V" } : Jvm.MethodName)) ∈ wG := wg_in (wt_2 (List.mem_of_getElem? (i := 206) rfl)) rfl
theorem tw_447 : (Jvm.Cond.code ({ cls := "DeckFront$Tape", name := "wipe", desc := "()V" } : Jvm.MethodName) prog_6_method_2_code (1 : Nat) (Option.none : Option Jvm.ClassFile.FieldType)) ∈ wG := wg_in (wt_2 (List.mem_of_getElem? (i := 207) rfl)) rfl
theorem tw_448 : (Jvm.Cond.classLink "DeckFront" (42 : Nat) "java/lang/IllegalArgumentException") ∈ wG := wg_in (wt_2 (List.mem_of_getElem? (i := 208) rfl)) rfl
theorem tw_449 : (Jvm.Cond.instantiable "java/lang/IllegalArgumentException" (6 : Nat)) ∈ wG := wg_in (wt_2 (List.mem_of_getElem? (i := 209) rfl)) rfl
theorem tw_457 : (Jvm.Cond.selects "java/lang/IllegalArgumentException" ({ cls := "java/lang/Throwable", name := "fillInStackTrace", desc := "(I)Ljava/lang/Throwable;" } : Jvm.MethodName) ({ cls := "java/lang/Throwable", name := "fillInStackTrace", desc := "(I)Ljava/lang/Throwable;" } : Jvm.MethodName)) ∈ wG := wg_in (wt_2 (List.mem_of_getElem? (i := 217) rfl)) rfl
theorem tw_458 : (Jvm.Cond.selects "java/lang/IllegalArgumentException" ({ cls := "java/lang/Throwable", name := "fillInStackTrace", desc := "()Ljava/lang/Throwable;" } : Jvm.MethodName) ({ cls := "java/lang/Throwable", name := "fillInStackTrace", desc := "()Ljava/lang/Throwable;" } : Jvm.MethodName)) ∈ wG := wg_in (wt_2 (List.mem_of_getElem? (i := 218) rfl)) rfl
theorem tw_459 : (Jvm.Cond.lays "java/lang/IllegalArgumentException" "java/lang/Throwable" "cause" "Ljava/lang/Throwable;") ∈ wG := wg_in (wt_2 (List.mem_of_getElem? (i := 219) rfl)) rfl
theorem tw_460 : (Jvm.Cond.lays "java/lang/Throwable" "java/lang/Throwable" "cause" "Ljava/lang/Throwable;") ∈ wG := wg_in (wt_2 (List.mem_of_getElem? (i := 220) rfl)) rfl
theorem tw_461 : (Jvm.Cond.lays "java/lang/IllegalArgumentException" "java/lang/Throwable" "stackTrace" "[Ljava/lang/StackTraceElement;") ∈ wG := wg_in (wt_2 (List.mem_of_getElem? (i := 221) rfl)) rfl
theorem tw_462 : (Jvm.Cond.lays "java/lang/Throwable" "java/lang/Throwable" "stackTrace" "[Ljava/lang/StackTraceElement;") ∈ wG := wg_in (wt_2 (List.mem_of_getElem? (i := 222) rfl)) rfl
theorem tw_463 : (Jvm.Cond.lays "java/lang/IllegalArgumentException" "java/lang/Throwable" "suppressedExceptions" "Ljava/util/List;") ∈ wG := wg_in (wt_2 (List.mem_of_getElem? (i := 223) rfl)) rfl
theorem tw_464 : (Jvm.Cond.lays "java/lang/Throwable" "java/lang/Throwable" "suppressedExceptions" "Ljava/util/List;") ∈ wG := wg_in (wt_2 (List.mem_of_getElem? (i := 224) rfl)) rfl
theorem tw_465 : (Jvm.Cond.lays "java/lang/IllegalArgumentException" "java/lang/Throwable" "detailMessage" "Ljava/lang/String;") ∈ wG := wg_in (wt_2 (List.mem_of_getElem? (i := 225) rfl)) rfl
theorem tw_466 : (Jvm.Cond.lays "java/lang/Throwable" "java/lang/Throwable" "detailMessage" "Ljava/lang/String;") ∈ wG := wg_in (wt_2 (List.mem_of_getElem? (i := 226) rfl)) rfl
theorem tw_467 : (Jvm.Cond.lays "java/lang/IllegalArgumentException" "java/lang/Throwable" "backtrace" "Ljava/lang/Object;") ∈ wG := wg_in (wt_2 (List.mem_of_getElem? (i := 227) rfl)) rfl
theorem tw_468 : (Jvm.Cond.lays "java/lang/Throwable" "java/lang/Throwable" "backtrace" "Ljava/lang/Object;") ∈ wG := wg_in (wt_2 (List.mem_of_getElem? (i := 228) rfl)) rfl
theorem tw_469 : (Jvm.Cond.fieldLink "java/lang/Throwable" (198 : Nat) "java/lang/Throwable" "backtrace" "Ljava/lang/Object;") ∈ wG := wg_in (wt_2 (List.mem_of_getElem? (i := 229) rfl)) rfl
theorem tw_471 : (Jvm.Cond.instanceMethod ({ cls := "java/lang/Throwable", name := "<init>", desc := "()V" } : Jvm.MethodName)) ∈ wG := wg_in (wt_2 (List.mem_of_getElem? (i := 231) rfl)) rfl
theorem tw_472 : (Jvm.Cond.code ({ cls := "java/lang/Throwable", name := "<init>", desc := "()V" } : Jvm.MethodName) prog_18_method_1_code (1 : Nat) (Option.none : Option Jvm.ClassFile.FieldType)) ∈ wG := wg_in (wt_2 (List.mem_of_getElem? (i := 232) rfl)) rfl
theorem tw_473 : (Jvm.Cond.methodLink "java/lang/Throwable" (1 : Nat) ({ cls := "java/lang/Object", name := "<init>", desc := "()V" } : Jvm.MethodName)) ∈ wG := wg_in (wt_2 (List.mem_of_getElem? (i := 233) rfl)) rfl
theorem tw_474 : (Jvm.Cond.fieldLink "java/lang/Throwable" (13 : Nat) "java/lang/Throwable" "UNASSIGNED_STACK" "[Ljava/lang/StackTraceElement;") ∈ wG := wg_in (wt_2 (List.mem_of_getElem? (i := 234) rfl)) rfl
theorem tw_476 : (Jvm.Cond.fieldLink "java/lang/Throwable" (20 : Nat) "java/lang/Throwable" "SUPPRESSED_SENTINEL" "Ljava/util/List;") ∈ wG := wg_in (wt_2 (List.mem_of_getElem? (i := 236) rfl)) rfl
theorem tw_478 : (Jvm.Cond.methodLink "java/lang/Throwable" (27 : Nat) ({ cls := "java/lang/Throwable", name := "fillInStackTrace", desc := "()Ljava/lang/Throwable;" } : Jvm.MethodName)) ∈ wG := wg_in (wt_2 (List.mem_of_getElem? (i := 238) rfl)) rfl
theorem tw_479 : (Jvm.Cond.instanceMethod ({ cls := "java/lang/Throwable", name := "fillInStackTrace", desc := "()Ljava/lang/Throwable;" } : Jvm.MethodName)) ∈ wG := wg_in (wt_2 (List.mem_of_getElem? (i := 239) rfl)) rfl
theorem tw_480 : (Jvm.Cond.sameMethod "java/lang/Throwable" "java/lang/Throwable" "fillInStackTrace" "()Ljava/lang/Throwable;") ∈ wG := wg_in (wt_3 (List.mem_of_getElem? (i := 0) rfl)) rfl
theorem tw_481 : (Jvm.Cond.selects "java/lang/IllegalStateException" ({ cls := "java/lang/Throwable", name := "fillInStackTrace", desc := "()Ljava/lang/Throwable;" } : Jvm.MethodName) ({ cls := "java/lang/Throwable", name := "fillInStackTrace", desc := "()Ljava/lang/Throwable;" } : Jvm.MethodName)) ∈ wG := wg_in (wt_3 (List.mem_of_getElem? (i := 1) rfl)) rfl
theorem tw_483 : (Jvm.Cond.methodLink "java/lang/Throwable" (202 : Nat) ({ cls := "java/lang/Throwable", name := "fillInStackTrace", desc := "(I)Ljava/lang/Throwable;" } : Jvm.MethodName)) ∈ wG := wg_in (wt_3 (List.mem_of_getElem? (i := 3) rfl)) rfl
theorem tw_485 : (Jvm.Cond.instanceMethod ({ cls := "java/lang/Throwable", name := "fillInStackTrace", desc := "(I)Ljava/lang/Throwable;" } : Jvm.MethodName)) ∈ wG := wg_in (wt_3 (List.mem_of_getElem? (i := 5) rfl)) rfl
theorem tw_486 : (Jvm.Cond.instantiable "java/lang/Throwable" (6 : Nat)) ∈ wG := wg_in (wt_3 (List.mem_of_getElem? (i := 6) rfl)) rfl
theorem tw_489 : (Jvm.Cond.methodLink "DeckFront" (46 : Nat) ({ cls := "java/lang/IllegalArgumentException", name := "<init>", desc := "(Ljava/lang/String;)V" } : Jvm.MethodName)) ∈ wG := wg_in (wt_3 (List.mem_of_getElem? (i := 9) rfl)) rfl
theorem tw_490 : (Jvm.Cond.instanceMethod ({ cls := "java/lang/IllegalArgumentException", name := "<init>", desc := "(Ljava/lang/String;)V" } : Jvm.MethodName)) ∈ wG := wg_in (wt_3 (List.mem_of_getElem? (i := 10) rfl)) rfl
theorem tw_491 : (Jvm.Cond.code ({ cls := "java/lang/IllegalArgumentException", name := "<init>", desc := "(Ljava/lang/String;)V" } : Jvm.MethodName) prog_11_method_2_code (2 : Nat) (Option.none : Option Jvm.ClassFile.FieldType)) ∈ wG := wg_in (wt_3 (List.mem_of_getElem? (i := 11) rfl)) rfl
theorem tw_492 : (Jvm.Cond.methodLink "java/lang/IllegalArgumentException" (7 : Nat) ({ cls := "java/lang/RuntimeException", name := "<init>", desc := "(Ljava/lang/String;)V" } : Jvm.MethodName)) ∈ wG := wg_in (wt_3 (List.mem_of_getElem? (i := 12) rfl)) rfl
theorem tw_493 : (Jvm.Cond.instanceMethod ({ cls := "java/lang/RuntimeException", name := "<init>", desc := "(Ljava/lang/String;)V" } : Jvm.MethodName)) ∈ wG := wg_in (wt_3 (List.mem_of_getElem? (i := 13) rfl)) rfl
theorem tw_494 : (Jvm.Cond.code ({ cls := "java/lang/RuntimeException", name := "<init>", desc := "(Ljava/lang/String;)V" } : Jvm.MethodName) prog_14_method_2_code (2 : Nat) (Option.none : Option Jvm.ClassFile.FieldType)) ∈ wG := wg_in (wt_3 (List.mem_of_getElem? (i := 14) rfl)) rfl
theorem tw_495 : (Jvm.Cond.methodLink "java/lang/RuntimeException" (7 : Nat) ({ cls := "java/lang/Exception", name := "<init>", desc := "(Ljava/lang/String;)V" } : Jvm.MethodName)) ∈ wG := wg_in (wt_3 (List.mem_of_getElem? (i := 15) rfl)) rfl
theorem tw_496 : (Jvm.Cond.instanceMethod ({ cls := "java/lang/Exception", name := "<init>", desc := "(Ljava/lang/String;)V" } : Jvm.MethodName)) ∈ wG := wg_in (wt_3 (List.mem_of_getElem? (i := 16) rfl)) rfl
theorem tw_497 : (Jvm.Cond.code ({ cls := "java/lang/Exception", name := "<init>", desc := "(Ljava/lang/String;)V" } : Jvm.MethodName) prog_10_method_2_code (2 : Nat) (Option.none : Option Jvm.ClassFile.FieldType)) ∈ wG := wg_in (wt_3 (List.mem_of_getElem? (i := 17) rfl)) rfl
theorem tw_498 : (Jvm.Cond.methodLink "java/lang/Exception" (7 : Nat) ({ cls := "java/lang/Throwable", name := "<init>", desc := "(Ljava/lang/String;)V" } : Jvm.MethodName)) ∈ wG := wg_in (wt_3 (List.mem_of_getElem? (i := 18) rfl)) rfl
theorem tw_499 : (Jvm.Cond.instanceMethod ({ cls := "java/lang/Throwable", name := "<init>", desc := "(Ljava/lang/String;)V" } : Jvm.MethodName)) ∈ wG := wg_in (wt_3 (List.mem_of_getElem? (i := 19) rfl)) rfl
theorem tw_500 : (Jvm.Cond.code ({ cls := "java/lang/Throwable", name := "<init>", desc := "(Ljava/lang/String;)V" } : Jvm.MethodName) prog_18_method_2_code (2 : Nat) (Option.none : Option Jvm.ClassFile.FieldType)) ∈ wG := wg_in (wt_3 (List.mem_of_getElem? (i := 20) rfl)) rfl
theorem tw_501 : (Jvm.Cond.fieldLink "java/lang/Throwable" (198 : Nat) "java/lang/Throwable" "backtrace" "Ljava/lang/Object;") ∈ wG := wg_in (wt_3 (List.mem_of_getElem? (i := 21) rfl)) rfl
theorem tw_502 : (Jvm.Cond.fieldLink "java/lang/Throwable" (31 : Nat) "java/lang/Throwable" "detailMessage" "Ljava/lang/String;") ∈ wG := wg_in (wt_3 (List.mem_of_getElem? (i := 22) rfl)) rfl
theorem tw_503 : (Jvm.Cond.fieldLink "java/lang/Throwable" (7 : Nat) "java/lang/Throwable" "cause" "Ljava/lang/Throwable;") ∈ wG := wg_in (wt_3 (List.mem_of_getElem? (i := 23) rfl)) rfl
theorem tw_504 : (Jvm.Cond.fieldLink "java/lang/Throwable" (17 : Nat) "java/lang/Throwable" "stackTrace" "[Ljava/lang/StackTraceElement;") ∈ wG := wg_in (wt_3 (List.mem_of_getElem? (i := 24) rfl)) rfl
theorem tw_505 : (Jvm.Cond.fieldLink "java/lang/Throwable" (24 : Nat) "java/lang/Throwable" "suppressedExceptions" "Ljava/util/List;") ∈ wG := wg_in (wt_3 (List.mem_of_getElem? (i := 25) rfl)) rfl
theorem tw_510 : (Jvm.Cond.lays "java/lang/IllegalArgumentException" "java/lang/Throwable" "depth" "I") ∈ wG := wg_in (wt_3 (List.mem_of_getElem? (i := 30) rfl)) rfl
theorem tw_514 : (Jvm.Cond.classLink "DeckFront" (49 : Nat) "java/lang/IllegalStateException") ∈ wG := wg_in (wt_3 (List.mem_of_getElem? (i := 34) rfl)) rfl
theorem tw_515 : (Jvm.Cond.instantiable "java/lang/IllegalStateException" (6 : Nat)) ∈ wG := wg_in (wt_3 (List.mem_of_getElem? (i := 35) rfl)) rfl
theorem tw_517 : (Jvm.Cond.selects "java/lang/IllegalStateException" ({ cls := "java/lang/Throwable", name := "fillInStackTrace", desc := "(I)Ljava/lang/Throwable;" } : Jvm.MethodName) ({ cls := "java/lang/Throwable", name := "fillInStackTrace", desc := "(I)Ljava/lang/Throwable;" } : Jvm.MethodName)) ∈ wG := wg_in (wt_3 (List.mem_of_getElem? (i := 37) rfl)) rfl
theorem tw_518 : (Jvm.Cond.lays "java/lang/IllegalStateException" "java/lang/Throwable" "cause" "Ljava/lang/Throwable;") ∈ wG := wg_in (wt_3 (List.mem_of_getElem? (i := 38) rfl)) rfl
theorem tw_519 : (Jvm.Cond.lays "java/lang/IllegalStateException" "java/lang/Throwable" "stackTrace" "[Ljava/lang/StackTraceElement;") ∈ wG := wg_in (wt_3 (List.mem_of_getElem? (i := 39) rfl)) rfl
theorem tw_520 : (Jvm.Cond.lays "java/lang/IllegalStateException" "java/lang/Throwable" "suppressedExceptions" "Ljava/util/List;") ∈ wG := wg_in (wt_3 (List.mem_of_getElem? (i := 40) rfl)) rfl
theorem tw_521 : (Jvm.Cond.lays "java/lang/IllegalStateException" "java/lang/Throwable" "detailMessage" "Ljava/lang/String;") ∈ wG := wg_in (wt_3 (List.mem_of_getElem? (i := 41) rfl)) rfl
theorem tw_522 : (Jvm.Cond.lays "java/lang/IllegalStateException" "java/lang/Throwable" "backtrace" "Ljava/lang/Object;") ∈ wG := wg_in (wt_3 (List.mem_of_getElem? (i := 42) rfl)) rfl
theorem tw_524 : (Jvm.Cond.methodLink "DeckFront" (53 : Nat) ({ cls := "java/lang/IllegalStateException", name := "<init>", desc := "(Ljava/lang/String;)V" } : Jvm.MethodName)) ∈ wG := wg_in (wt_3 (List.mem_of_getElem? (i := 44) rfl)) rfl
theorem tw_525 : (Jvm.Cond.instanceMethod ({ cls := "java/lang/IllegalStateException", name := "<init>", desc := "(Ljava/lang/String;)V" } : Jvm.MethodName)) ∈ wG := wg_in (wt_3 (List.mem_of_getElem? (i := 45) rfl)) rfl
theorem tw_526 : (Jvm.Cond.code ({ cls := "java/lang/IllegalStateException", name := "<init>", desc := "(Ljava/lang/String;)V" } : Jvm.MethodName) prog_12_method_2_code (2 : Nat) (Option.none : Option Jvm.ClassFile.FieldType)) ∈ wG := wg_in (wt_3 (List.mem_of_getElem? (i := 46) rfl)) rfl
theorem tw_527 : (Jvm.Cond.methodLink "java/lang/IllegalStateException" (7 : Nat) ({ cls := "java/lang/RuntimeException", name := "<init>", desc := "(Ljava/lang/String;)V" } : Jvm.MethodName)) ∈ wG := wg_in (wt_3 (List.mem_of_getElem? (i := 47) rfl)) rfl
theorem tw_528 : (Jvm.Cond.lays "java/lang/IllegalStateException" "java/lang/Throwable" "depth" "I") ∈ wG := wg_in (wt_3 (List.mem_of_getElem? (i := 48) rfl)) rfl
theorem tw_530 : (Jvm.Cond.methodLink "DeckFront" (58 : Nat) ({ cls := "DeckFront$Statement", name := "recognise", desc := "()V" } : Jvm.MethodName)) ∈ wG := wg_in (wt_3 (List.mem_of_getElem? (i := 50) rfl)) rfl
theorem tw_531 : (Jvm.Cond.instanceMethod ({ cls := "DeckFront$Statement", name := "recognise", desc := "()V" } : Jvm.MethodName)) ∈ wG := wg_in (wt_3 (List.mem_of_getElem? (i := 51) rfl)) rfl
theorem tw_532 : (Jvm.Cond.selects "DeckFront$Statement" ({ cls := "DeckFront$Statement", name := "recognise", desc := "()V" } : Jvm.MethodName) ({ cls := "DeckFront$Statement", name := "recognise", desc := "()V" } : Jvm.MethodName)) ∈ wG := wg_in (wt_3 (List.mem_of_getElem? (i := 52) rfl)) rfl
theorem tw_533 : (Jvm.Cond.code ({ cls := "DeckFront$Statement", name := "recognise", desc := "()V" } : Jvm.MethodName) prog_4_method_2_code (1 : Nat) (Option.none : Option Jvm.ClassFile.FieldType)) ∈ wG := wg_in (wt_3 (List.mem_of_getElem? (i := 53) rfl)) rfl
theorem tw_534 : (Jvm.Cond.methodLink "DeckFront$Statement" (18 : Nat) ({ cls := "DeckFront$Statement", name := "firstThatFits", desc := "(I)I" } : Jvm.MethodName)) ∈ wG := wg_in (wt_3 (List.mem_of_getElem? (i := 54) rfl)) rfl
theorem tw_536 : (Jvm.Cond.instanceMethod ({ cls := "DeckFront$Statement", name := "firstThatFits", desc := "(I)I" } : Jvm.MethodName)) ∈ wG := wg_in (wt_3 (List.mem_of_getElem? (i := 56) rfl)) rfl
theorem tw_537 : (Jvm.Cond.code ({ cls := "DeckFront$Statement", name := "firstThatFits", desc := "(I)I" } : Jvm.MethodName) prog_4_method_4_code (3 : Nat) (Option.some Jvm.ClassFile.FieldType.int)) ∈ wG := wg_in (wt_3 (List.mem_of_getElem? (i := 57) rfl)) rfl
theorem tw_538 : (Jvm.Cond.methodLink "DeckFront$Statement" (41 : Nat) ({ cls := "DeckFront$Statement", name := "goBackTo", desc := "(I)V" } : Jvm.MethodName)) ∈ wG := wg_in (wt_3 (List.mem_of_getElem? (i := 58) rfl)) rfl
theorem tw_539 : (Jvm.Cond.sameMethod "DeckFront$Statement" "DeckFront$Tape" "goBackTo" "(I)V") ∈ wG := wg_in (wt_3 (List.mem_of_getElem? (i := 59) rfl)) rfl
theorem tw_541 : (Jvm.Cond.selects "DeckFront$Statement" ({ cls := "DeckFront$Statement", name := "goBackTo", desc := "(I)V" } : Jvm.MethodName) ({ cls := "DeckFront$Tape", name := "goBackTo", desc := "(I)V" } : Jvm.MethodName)) ∈ wG := wg_in (wt_3 (List.mem_of_getElem? (i := 61) rfl)) rfl
theorem tw_542 : (Jvm.Cond.instanceMethod ({ cls := "DeckFront$Tape", name := "goBackTo", desc := "(I)V" } : Jvm.MethodName)) ∈ wG := wg_in (wt_3 (List.mem_of_getElem? (i := 62) rfl)) rfl
theorem tw_543 : (Jvm.Cond.code ({ cls := "DeckFront$Tape", name := "goBackTo", desc := "(I)V" } : Jvm.MethodName) prog_6_method_4_code (3 : Nat) (Option.none : Option Jvm.ClassFile.FieldType)) ∈ wG := wg_in (wt_3 (List.mem_of_getElem? (i := 63) rfl)) rfl
theorem tw_544 : (Jvm.Cond.methodLink "DeckFront$Statement" (45 : Nat) ({ cls := "DeckFront$Statement", name := "fits", desc := "(I)Z" } : Jvm.MethodName)) ∈ wG := wg_in (wt_3 (List.mem_of_getElem? (i := 64) rfl)) rfl
theorem tw_546 : (Jvm.Cond.instanceMethod ({ cls := "DeckFront$Statement", name := "fits", desc := "(I)Z" } : Jvm.MethodName)) ∈ wG := wg_in (wt_3 (List.mem_of_getElem? (i := 66) rfl)) rfl
theorem tw_547 : (Jvm.Cond.code ({ cls := "DeckFront$Statement", name := "fits", desc := "(I)Z" } : Jvm.MethodName) prog_4_method_5_code (2 : Nat) (Option.some Jvm.ClassFile.FieldType.boolean)) ∈ wG := wg_in (wt_3 (List.mem_of_getElem? (i := 67) rfl)) rfl
theorem tw_549 : (Jvm.Cond.methodLink "DeckFront$Statement" (27 : Nat) ({ cls := "DeckFront$Statement", name := "take", desc := "(Ljava/lang/String;)Z" } : Jvm.MethodName)) ∈ wG := wg_in (wt_3 (List.mem_of_getElem? (i := 69) rfl)) rfl
theorem tw_550 : (Jvm.Cond.sameMethod "DeckFront$Statement" "DeckFront$Tape" "take" "(Ljava/lang/String;)Z") ∈ wG := wg_in (wt_3 (List.mem_of_getElem? (i := 70) rfl)) rfl
theorem tw_552 : (Jvm.Cond.selects "DeckFront$Statement" ({ cls := "DeckFront$Statement", name := "take", desc := "(Ljava/lang/String;)Z" } : Jvm.MethodName) ({ cls := "DeckFront$Tape", name := "take", desc := "(Ljava/lang/String;)Z" } : Jvm.MethodName)) ∈ wG := wg_in (wt_3 (List.mem_of_getElem? (i := 72) rfl)) rfl
theorem tw_553 : (Jvm.Cond.instanceMethod ({ cls := "DeckFront$Tape", name := "take", desc := "(Ljava/lang/String;)Z" } : Jvm.MethodName)) ∈ wG := wg_in (wt_3 (List.mem_of_getElem? (i := 73) rfl)) rfl
theorem tw_554 : (Jvm.Cond.code ({ cls := "DeckFront$Tape", name := "take", desc := "(Ljava/lang/String;)Z" } : Jvm.MethodName) prog_6_method_7_code (2 : Nat) (Option.some Jvm.ClassFile.FieldType.boolean)) ∈ wG := wg_in (wt_3 (List.mem_of_getElem? (i := 74) rfl)) rfl
theorem tw_555 : (Jvm.Cond.methodLink "DeckFront$Tape" (51 : Nat) ({ cls := "DeckFront$Tape", name := "stands", desc := "(ILjava/lang/String;)Z" } : Jvm.MethodName)) ∈ wG := wg_in (wt_3 (List.mem_of_getElem? (i := 75) rfl)) rfl
theorem tw_556 : (Jvm.Cond.instanceMethod ({ cls := "DeckFront$Tape", name := "stands", desc := "(ILjava/lang/String;)Z" } : Jvm.MethodName)) ∈ wG := wg_in (wt_3 (List.mem_of_getElem? (i := 76) rfl)) rfl
theorem tw_557 : (Jvm.Cond.sameMethod "DeckFront$Tape" "DeckFront$Tape" "stands" "(ILjava/lang/String;)Z") ∈ wG := wg_in (wt_3 (List.mem_of_getElem? (i := 77) rfl)) rfl
theorem tw_558 : (Jvm.Cond.selects "DeckFront$Statement" ({ cls := "DeckFront$Tape", name := "stands", desc := "(ILjava/lang/String;)Z" } : Jvm.MethodName) ({ cls := "DeckFront$Tape", name := "stands", desc := "(ILjava/lang/String;)Z" } : Jvm.MethodName)) ∈ wG := wg_in (wt_3 (List.mem_of_getElem? (i := 78) rfl)) rfl
theorem tw_559 : (Jvm.Cond.code ({ cls := "DeckFront$Tape", name := "stands", desc := "(ILjava/lang/String;)Z" } : Jvm.MethodName) prog_6_method_6_code (4 : Nat) (Option.some Jvm.ClassFile.FieldType.boolean)) ∈ wG := wg_in (wt_3 (List.mem_of_getElem? (i := 79) rfl)) rfl
theorem tw_560 : (Jvm.Cond.methodLink "DeckFront$Tape" (42 : Nat) ({ cls := "java/lang/String", name := "length", desc := "()I" } : Jvm.MethodName)) ∈ wG := wg_in (wt_3 (List.mem_of_getElem? (i := 80) rfl)) rfl
theorem tw_561 : (Jvm.Cond.methodLink "DeckFront$Tape" (47 : Nat) ({ cls := "java/lang/String", name := "charAt", desc := "(I)C" } : Jvm.MethodName)) ∈ wG := wg_in (wt_3 (List.mem_of_getElem? (i := 81) rfl)) rfl
theorem tw_562 : (Jvm.Cond.instanceMethod ({ cls := "java/lang/String", name := "charAt", desc := "(I)C" } : Jvm.MethodName)) ∈ wG := wg_in (wt_3 (List.mem_of_getElem? (i := 82) rfl)) rfl
theorem tw_563 : (Jvm.Cond.selects "java/lang/String" ({ cls := "java/lang/String", name := "charAt", desc := "(I)C" } : Jvm.MethodName) ({ cls := "java/lang/String", name := "charAt", desc := "(I)C" } : Jvm.MethodName)) ∈ wG := wg_in (wt_3 (List.mem_of_getElem? (i := 83) rfl)) rfl
theorem tw_564 : (Jvm.Cond.code ({ cls := "java/lang/String", name := "charAt", desc := "(I)C" } : Jvm.MethodName) prog_15_method_56_code (2 : Nat) (Option.some Jvm.ClassFile.FieldType.char)) ∈ wG := wg_in (wt_3 (List.mem_of_getElem? (i := 84) rfl)) rfl
theorem tw_565 : (Jvm.Cond.methodLink "java/lang/String" (495 : Nat) ({ cls := "java/lang/StringLatin1", name := "charAt", desc := "([BI)C" } : Jvm.MethodName)) ∈ wG := wg_in (wt_3 (List.mem_of_getElem? (i := 85) rfl)) rfl
theorem tw_566 : (Jvm.Cond.static ({ cls := "java/lang/StringLatin1", name := "charAt", desc := "([BI)C" } : Jvm.MethodName)) ∈ wG := wg_in (wt_3 (List.mem_of_getElem? (i := 86) rfl)) rfl
theorem tw_567 : (Jvm.Cond.code ({ cls := "java/lang/StringLatin1", name := "charAt", desc := "([BI)C" } : Jvm.MethodName) prog_16_method_2_code (2 : Nat) (Option.some Jvm.ClassFile.FieldType.char)) ∈ wG := wg_in (wt_3 (List.mem_of_getElem? (i := 87) rfl)) rfl
theorem tw_568 : (Jvm.Cond.methodLink "java/lang/StringLatin1" (9 : Nat) ({ cls := "java/lang/String", name := "checkIndex", desc := "(II)V" } : Jvm.MethodName)) ∈ wG := wg_in (wt_3 (List.mem_of_getElem? (i := 88) rfl)) rfl
theorem tw_569 : (Jvm.Cond.static ({ cls := "java/lang/String", name := "checkIndex", desc := "(II)V" } : Jvm.MethodName)) ∈ wG := wg_in (wt_3 (List.mem_of_getElem? (i := 89) rfl)) rfl
theorem tw_570 : (Jvm.Cond.code ({ cls := "java/lang/String", name := "checkIndex", desc := "(II)V" } : Jvm.MethodName) prog_15_method_155_code (2 : Nat) (Option.none : Option Jvm.ClassFile.FieldType)) ∈ wG := wg_in (wt_3 (List.mem_of_getElem? (i := 90) rfl)) rfl
theorem tw_571 : (Jvm.Cond.methodLink "java/lang/String" (1059 : Nat) ({ cls := "jdk/internal/util/Preconditions", name := "checkIndex", desc := "(IILjava/util/function/BiFunction;)I" } : Jvm.MethodName)) ∈ wG := wg_in (wt_3 (List.mem_of_getElem? (i := 91) rfl)) rfl
theorem tw_572 : (Jvm.Cond.static ({ cls := "jdk/internal/util/Preconditions", name := "checkIndex", desc := "(IILjava/util/function/BiFunction;)I" } : Jvm.MethodName)) ∈ wG := wg_in (wt_3 (List.mem_of_getElem? (i := 92) rfl)) rfl
theorem tw_573 : (Jvm.Cond.code ({ cls := "jdk/internal/util/Preconditions", name := "checkIndex", desc := "(IILjava/util/function/BiFunction;)I" } : Jvm.MethodName) prog_19_method_11_code (3 : Nat) (Option.some Jvm.ClassFile.FieldType.int)) ∈ wG := wg_in (wt_3 (List.mem_of_getElem? (i := 93) rfl)) rfl
theorem tw_574 : (Jvm.Cond.methodLink "java/lang/String" (498 : Nat) ({ cls := "java/lang/StringUTF16", name := "charAt", desc := "([BI)C" } : Jvm.MethodName)) ∈ wG := wg_in (wt_3 (List.mem_of_getElem? (i := 94) rfl)) rfl
theorem tw_575 : (Jvm.Cond.static ({ cls := "java/lang/StringUTF16", name := "charAt", desc := "([BI)C" } : Jvm.MethodName)) ∈ wG := wg_in (wt_3 (List.mem_of_getElem? (i := 95) rfl)) rfl
theorem tw_576 : (Jvm.Cond.code ({ cls := "java/lang/StringUTF16", name := "charAt", desc := "([BI)C" } : Jvm.MethodName) prog_17_method_83_code (2 : Nat) (Option.some Jvm.ClassFile.FieldType.char)) ∈ wG := wg_in (wt_3 (List.mem_of_getElem? (i := 96) rfl)) rfl
theorem tw_577 : (Jvm.Cond.methodLink "java/lang/StringUTF16" (67 : Nat) ({ cls := "java/lang/StringUTF16", name := "checkIndex", desc := "(I[B)V" } : Jvm.MethodName)) ∈ wG := wg_in (wt_3 (List.mem_of_getElem? (i := 97) rfl)) rfl
theorem tw_578 : (Jvm.Cond.static ({ cls := "java/lang/StringUTF16", name := "checkIndex", desc := "(I[B)V" } : Jvm.MethodName)) ∈ wG := wg_in (wt_3 (List.mem_of_getElem? (i := 98) rfl)) rfl
theorem tw_579 : (Jvm.Cond.code ({ cls := "java/lang/StringUTF16", name := "checkIndex", desc := "(I[B)V" } : Jvm.MethodName) prog_17_method_91_code (2 : Nat) (Option.none : Option Jvm.ClassFile.FieldType)) ∈ wG := wg_in (wt_3 (List.mem_of_getElem? (i := 99) rfl)) rfl
theorem tw_580 : (Jvm.Cond.methodLink "java/lang/StringUTF16" (414 : Nat) ({ cls := "java/lang/String", name := "checkIndex", desc := "(II)V" } : Jvm.MethodName)) ∈ wG := wg_in (wt_3 (List.mem_of_getElem? (i := 100) rfl)) rfl
theorem tw_581 : (Jvm.Cond.methodLink "DeckFront$Statement" (50 : Nat) ({ cls := "DeckFront$Statement", name := "takeDigits", desc := "(II)Z" } : Jvm.MethodName)) ∈ wG := wg_in (wt_3 (List.mem_of_getElem? (i := 101) rfl)) rfl
theorem tw_582 : (Jvm.Cond.sameMethod "DeckFront$Statement" "DeckFront$Tape" "takeDigits" "(II)Z") ∈ wG := wg_in (wt_3 (List.mem_of_getElem? (i := 102) rfl)) rfl
theorem tw_584 : (Jvm.Cond.selects "DeckFront$Statement" ({ cls := "DeckFront$Statement", name := "takeDigits", desc := "(II)Z" } : Jvm.MethodName) ({ cls := "DeckFront$Tape", name := "takeDigits", desc := "(II)Z" } : Jvm.MethodName)) ∈ wG := wg_in (wt_3 (List.mem_of_getElem? (i := 104) rfl)) rfl
theorem tw_585 : (Jvm.Cond.instanceMethod ({ cls := "DeckFront$Tape", name := "takeDigits", desc := "(II)Z" } : Jvm.MethodName)) ∈ wG := wg_in (wt_3 (List.mem_of_getElem? (i := 105) rfl)) rfl
theorem tw_586 : (Jvm.Cond.code ({ cls := "DeckFront$Tape", name := "takeDigits", desc := "(II)Z" } : Jvm.MethodName) prog_6_method_9_code (5 : Nat) (Option.some Jvm.ClassFile.FieldType.boolean)) ∈ wG := wg_in (wt_3 (List.mem_of_getElem? (i := 106) rfl)) rfl
theorem tw_587 : (Jvm.Cond.methodLink "DeckFront$Statement" (53 : Nat) ({ cls := "DeckFront$Statement", name := "takeIdleComma", desc := "()Z" } : Jvm.MethodName)) ∈ wG := wg_in (wt_3 (List.mem_of_getElem? (i := 107) rfl)) rfl
theorem tw_588 : (Jvm.Cond.sameMethod "DeckFront$Statement" "DeckFront$Tape" "takeIdleComma" "()Z") ∈ wG := wg_in (wt_3 (List.mem_of_getElem? (i := 108) rfl)) rfl
theorem tw_590 : (Jvm.Cond.selects "DeckFront$Statement" ({ cls := "DeckFront$Statement", name := "takeIdleComma", desc := "()Z" } : Jvm.MethodName) ({ cls := "DeckFront$Tape", name := "takeIdleComma", desc := "()Z" } : Jvm.MethodName)) ∈ wG := wg_in (wt_3 (List.mem_of_getElem? (i := 110) rfl)) rfl
theorem tw_591 : (Jvm.Cond.instanceMethod ({ cls := "DeckFront$Tape", name := "takeIdleComma", desc := "()Z" } : Jvm.MethodName)) ∈ wG := wg_in (wt_3 (List.mem_of_getElem? (i := 111) rfl)) rfl
theorem tw_592 : (Jvm.Cond.code ({ cls := "DeckFront$Tape", name := "takeIdleComma", desc := "()Z" } : Jvm.MethodName) prog_6_method_8_code (1 : Nat) (Option.some Jvm.ClassFile.FieldType.boolean)) ∈ wG := wg_in (wt_3 (List.mem_of_getElem? (i := 112) rfl)) rfl
theorem tw_593 : (Jvm.Cond.methodLink "DeckFront$Tape" (55 : Nat) ({ cls := "DeckFront$Tape", name := "isNext", desc := "(C)Z" } : Jvm.MethodName)) ∈ wG := wg_in (wt_3 (List.mem_of_getElem? (i := 113) rfl)) rfl
theorem tw_594 : (Jvm.Cond.instanceMethod ({ cls := "DeckFront$Tape", name := "isNext", desc := "(C)Z" } : Jvm.MethodName)) ∈ wG := wg_in (wt_3 (List.mem_of_getElem? (i := 114) rfl)) rfl
theorem tw_595 : (Jvm.Cond.sameMethod "DeckFront$Tape" "DeckFront$Tape" "isNext" "(C)Z") ∈ wG := wg_in (wt_3 (List.mem_of_getElem? (i := 115) rfl)) rfl
theorem tw_596 : (Jvm.Cond.selects "DeckFront$Statement" ({ cls := "DeckFront$Tape", name := "isNext", desc := "(C)Z" } : Jvm.MethodName) ({ cls := "DeckFront$Tape", name := "isNext", desc := "(C)Z" } : Jvm.MethodName)) ∈ wG := wg_in (wt_3 (List.mem_of_getElem? (i := 116) rfl)) rfl
theorem tw_597 : (Jvm.Cond.code ({ cls := "DeckFront$Tape", name := "isNext", desc := "(C)Z" } : Jvm.MethodName) prog_6_method_5_code (2 : Nat) (Option.some Jvm.ClassFile.FieldType.boolean)) ∈ wG := wg_in (wt_3 (List.mem_of_getElem? (i := 117) rfl)) rfl
theorem tw_598 : (Jvm.Cond.methodLink "DeckFront$Statement" (57 : Nat) ({ cls := "DeckFront$Statement", name := "takeName", desc := "(I)Z" } : Jvm.MethodName)) ∈ wG := wg_in (wt_3 (List.mem_of_getElem? (i := 118) rfl)) rfl
theorem tw_599 : (Jvm.Cond.sameMethod "DeckFront$Statement" "DeckFront$Tape" "takeName" "(I)Z") ∈ wG := wg_in (wt_3 (List.mem_of_getElem? (i := 119) rfl)) rfl
theorem tw_601 : (Jvm.Cond.selects "DeckFront$Statement" ({ cls := "DeckFront$Statement", name := "takeName", desc := "(I)Z" } : Jvm.MethodName) ({ cls := "DeckFront$Tape", name := "takeName", desc := "(I)Z" } : Jvm.MethodName)) ∈ wG := wg_in (wt_3 (List.mem_of_getElem? (i := 121) rfl)) rfl
theorem tw_602 : (Jvm.Cond.instanceMethod ({ cls := "DeckFront$Tape", name := "takeName", desc := "(I)Z" } : Jvm.MethodName)) ∈ wG := wg_in (wt_3 (List.mem_of_getElem? (i := 122) rfl)) rfl
theorem tw_603 : (Jvm.Cond.code ({ cls := "DeckFront$Tape", name := "takeName", desc := "(I)Z" } : Jvm.MethodName) prog_6_method_10_code (4 : Nat) (Option.some Jvm.ClassFile.FieldType.boolean)) ∈ wG := wg_in (wt_3 (List.mem_of_getElem? (i := 123) rfl)) rfl
theorem tw_605 : (Jvm.Cond.methodLink "DeckFront$Statement" (31 : Nat) ({ cls := "DeckFront$Statement", name := "expression", desc := "(II)Z" } : Jvm.MethodName)) ∈ wG := wg_in (wt_3 (List.mem_of_getElem? (i := 125) rfl)) rfl
theorem tw_607 : (Jvm.Cond.instanceMethod ({ cls := "DeckFront$Statement", name := "expression", desc := "(II)Z" } : Jvm.MethodName)) ∈ wG := wg_in (wt_3 (List.mem_of_getElem? (i := 127) rfl)) rfl
theorem tw_608 : (Jvm.Cond.code ({ cls := "DeckFront$Statement", name := "expression", desc := "(II)Z" } : Jvm.MethodName) prog_4_method_8_code (7 : Nat) (Option.some Jvm.ClassFile.FieldType.boolean)) ∈ wG := wg_in (wt_3 (List.mem_of_getElem? (i := 128) rfl)) rfl
theorem tw_609 : (Jvm.Cond.methodLink "DeckFront$Statement" (118 : Nat) ({ cls := "DeckFront$Statement", name := "power", desc := "(I)Z" } : Jvm.MethodName)) ∈ wG := wg_in (wt_3 (List.mem_of_getElem? (i := 129) rfl)) rfl
theorem tw_611 : (Jvm.Cond.instanceMethod ({ cls := "DeckFront$Statement", name := "power", desc := "(I)Z" } : Jvm.MethodName)) ∈ wG := wg_in (wt_3 (List.mem_of_getElem? (i := 131) rfl)) rfl
theorem tw_612 : (Jvm.Cond.code ({ cls := "DeckFront$Statement", name := "power", desc := "(I)Z" } : Jvm.MethodName) prog_4_method_11_code (5 : Nat) (Option.some Jvm.ClassFile.FieldType.boolean)) ∈ wG := wg_in (wt_3 (List.mem_of_getElem? (i := 132) rfl)) rfl
theorem tw_613 : (Jvm.Cond.methodLink "DeckFront$Statement" (164 : Nat) ({ cls := "DeckFront$Statement", name := "primary", desc := "(I)Z" } : Jvm.MethodName)) ∈ wG := wg_in (wt_3 (List.mem_of_getElem? (i := 133) rfl)) rfl
theorem tw_615 : (Jvm.Cond.instanceMethod ({ cls := "DeckFront$Statement", name := "primary", desc := "(I)Z" } : Jvm.MethodName)) ∈ wG := wg_in (wt_3 (List.mem_of_getElem? (i := 135) rfl)) rfl
theorem tw_616 : (Jvm.Cond.code ({ cls := "DeckFront$Statement", name := "primary", desc := "(I)Z" } : Jvm.MethodName) prog_4_method_12_code (2 : Nat) (Option.some Jvm.ClassFile.FieldType.boolean)) ∈ wG := wg_in (wt_3 (List.mem_of_getElem? (i := 136) rfl)) rfl
theorem tw_617 : (Jvm.Cond.methodLink "DeckFront$Statement" (169 : Nat) ({ cls := "DeckFront$Statement", name := "takeDecimal", desc := "()Z" } : Jvm.MethodName)) ∈ wG := wg_in (wt_3 (List.mem_of_getElem? (i := 137) rfl)) rfl
theorem tw_618 : (Jvm.Cond.sameMethod "DeckFront$Statement" "DeckFront$Tape" "takeDecimal" "()Z") ∈ wG := wg_in (wt_3 (List.mem_of_getElem? (i := 138) rfl)) rfl
theorem tw_620 : (Jvm.Cond.selects "DeckFront$Statement" ({ cls := "DeckFront$Statement", name := "takeDecimal", desc := "()Z" } : Jvm.MethodName) ({ cls := "DeckFront$Tape", name := "takeDecimal", desc := "()Z" } : Jvm.MethodName)) ∈ wG := wg_in (wt_3 (List.mem_of_getElem? (i := 140) rfl)) rfl
theorem tw_621 : (Jvm.Cond.instanceMethod ({ cls := "DeckFront$Tape", name := "takeDecimal", desc := "()Z" } : Jvm.MethodName)) ∈ wG := wg_in (wt_3 (List.mem_of_getElem? (i := 141) rfl)) rfl
theorem tw_622 : (Jvm.Cond.code ({ cls := "DeckFront$Tape", name := "takeDecimal", desc := "()Z" } : Jvm.MethodName) prog_6_method_12_code (4 : Nat) (Option.some Jvm.ClassFile.FieldType.boolean)) ∈ wG := wg_in (wt_3 (List.mem_of_getElem? (i := 142) rfl)) rfl
theorem tw_623 : (Jvm.Cond.methodLink "DeckFront$Tape" (66 : Nat) ({ cls := "DeckFront$Tape", name := "digitsEnd", desc := "(I)I" } : Jvm.MethodName)) ∈ wG := wg_in (wt_3 (List.mem_of_getElem? (i := 143) rfl)) rfl
theorem tw_625 : (Jvm.Cond.instanceMethod ({ cls := "DeckFront$Tape", name := "digitsEnd", desc := "(I)I" } : Jvm.MethodName)) ∈ wG := wg_in (wt_3 (List.mem_of_getElem? (i := 145) rfl)) rfl
theorem tw_626 : (Jvm.Cond.code ({ cls := "DeckFront$Tape", name := "digitsEnd", desc := "(I)I" } : Jvm.MethodName) prog_6_method_14_code (3 : Nat) (Option.some Jvm.ClassFile.FieldType.int)) ∈ wG := wg_in (wt_3 (List.mem_of_getElem? (i := 146) rfl)) rfl
theorem tw_628 : (Jvm.Cond.methodLink "DeckFront$Tape" (72 : Nat) ({ cls := "DeckFront$Tape", name := "standsLogicalWord", desc := "(I)Z" } : Jvm.MethodName)) ∈ wG := wg_in (wt_3 (List.mem_of_getElem? (i := 148) rfl)) rfl
theorem tw_630 : (Jvm.Cond.instanceMethod ({ cls := "DeckFront$Tape", name := "standsLogicalWord", desc := "(I)Z" } : Jvm.MethodName)) ∈ wG := wg_in (wt_3 (List.mem_of_getElem? (i := 150) rfl)) rfl
theorem tw_631 : (Jvm.Cond.code ({ cls := "DeckFront$Tape", name := "standsLogicalWord", desc := "(I)Z" } : Jvm.MethodName) prog_6_method_15_code (2 : Nat) (Option.some Jvm.ClassFile.FieldType.boolean)) ∈ wG := wg_in (wt_3 (List.mem_of_getElem? (i := 151) rfl)) rfl
theorem tw_643 : (Jvm.Cond.methodLink "DeckFront$Statement" (172 : Nat) ({ cls := "DeckFront$Statement", name := "takeExponent", desc := "()Z" } : Jvm.MethodName)) ∈ wG := wg_in (wt_3 (List.mem_of_getElem? (i := 163) rfl)) rfl
theorem tw_644 : (Jvm.Cond.sameMethod "DeckFront$Statement" "DeckFront$Tape" "takeExponent" "()Z") ∈ wG := wg_in (wt_3 (List.mem_of_getElem? (i := 164) rfl)) rfl
theorem tw_646 : (Jvm.Cond.selects "DeckFront$Statement" ({ cls := "DeckFront$Statement", name := "takeExponent", desc := "()Z" } : Jvm.MethodName) ({ cls := "DeckFront$Tape", name := "takeExponent", desc := "()Z" } : Jvm.MethodName)) ∈ wG := wg_in (wt_3 (List.mem_of_getElem? (i := 166) rfl)) rfl
theorem tw_647 : (Jvm.Cond.instanceMethod ({ cls := "DeckFront$Tape", name := "takeExponent", desc := "()Z" } : Jvm.MethodName)) ∈ wG := wg_in (wt_3 (List.mem_of_getElem? (i := 167) rfl)) rfl
theorem tw_648 : (Jvm.Cond.code ({ cls := "DeckFront$Tape", name := "takeExponent", desc := "()Z" } : Jvm.MethodName) prog_6_method_13_code (3 : Nat) (Option.some Jvm.ClassFile.FieldType.boolean)) ∈ wG := wg_in (wt_3 (List.mem_of_getElem? (i := 168) rfl)) rfl
theorem tw_653 : (Jvm.Cond.methodLink "DeckFront$Statement" (179 : Nat) ({ cls := "DeckFront$Statement", name := "takeQuote", desc := "()Z" } : Jvm.MethodName)) ∈ wG := wg_in (wt_3 (List.mem_of_getElem? (i := 173) rfl)) rfl
theorem tw_654 : (Jvm.Cond.sameMethod "DeckFront$Statement" "DeckFront$Tape" "takeQuote" "()Z") ∈ wG := wg_in (wt_3 (List.mem_of_getElem? (i := 174) rfl)) rfl
theorem tw_656 : (Jvm.Cond.selects "DeckFront$Statement" ({ cls := "DeckFront$Statement", name := "takeQuote", desc := "()Z" } : Jvm.MethodName) ({ cls := "DeckFront$Tape", name := "takeQuote", desc := "()Z" } : Jvm.MethodName)) ∈ wG := wg_in (wt_3 (List.mem_of_getElem? (i := 176) rfl)) rfl
theorem tw_657 : (Jvm.Cond.instanceMethod ({ cls := "DeckFront$Tape", name := "takeQuote", desc := "()Z" } : Jvm.MethodName)) ∈ wG := wg_in (wt_3 (List.mem_of_getElem? (i := 177) rfl)) rfl
theorem tw_658 : (Jvm.Cond.code ({ cls := "DeckFront$Tape", name := "takeQuote", desc := "()Z" } : Jvm.MethodName) prog_6_method_11_code (2 : Nat) (Option.some Jvm.ClassFile.FieldType.boolean)) ∈ wG := wg_in (wt_3 (List.mem_of_getElem? (i := 178) rfl)) rfl
theorem tw_659 : (Jvm.Cond.methodLink "DeckFront$Statement" (82 : Nat) ({ cls := "DeckFront$Statement", name := "isNext", desc := "(C)Z" } : Jvm.MethodName)) ∈ wG := wg_in (wt_3 (List.mem_of_getElem? (i := 179) rfl)) rfl
theorem tw_660 : (Jvm.Cond.sameMethod "DeckFront$Statement" "DeckFront$Tape" "isNext" "(C)Z") ∈ wG := wg_in (wt_3 (List.mem_of_getElem? (i := 180) rfl)) rfl
theorem tw_662 : (Jvm.Cond.selects "DeckFront$Statement" ({ cls := "DeckFront$Statement", name := "isNext", desc := "(C)Z" } : Jvm.MethodName) ({ cls := "DeckFront$Tape", name := "isNext", desc := "(C)Z" } : Jvm.MethodName)) ∈ wG := wg_in (wt_3 (List.mem_of_getElem? (i := 182) rfl)) rfl
theorem tw_663 : (Jvm.Cond.methodLink "DeckFront$Statement" (182 : Nat) ({ cls := "DeckFront$Statement", name := "group", desc := "(I)Z" } : Jvm.MethodName)) ∈ wG := wg_in (wt_3 (List.mem_of_getElem? (i := 183) rfl)) rfl
theorem tw_665 : (Jvm.Cond.instanceMethod ({ cls := "DeckFront$Statement", name := "group", desc := "(I)Z" } : Jvm.MethodName)) ∈ wG := wg_in (wt_3 (List.mem_of_getElem? (i := 185) rfl)) rfl
theorem tw_666 : (Jvm.Cond.code ({ cls := "DeckFront$Statement", name := "group", desc := "(I)Z" } : Jvm.MethodName) prog_4_method_13_code (2 : Nat) (Option.some Jvm.ClassFile.FieldType.boolean)) ∈ wG := wg_in (wt_3 (List.mem_of_getElem? (i := 186) rfl)) rfl
theorem tw_667 : (Jvm.Cond.methodLink "DeckFront$Statement" (64 : Nat) ({ cls := "DeckFront$Statement", name := "reference", desc := "(IZ)Z" } : Jvm.MethodName)) ∈ wG := wg_in (wt_3 (List.mem_of_getElem? (i := 187) rfl)) rfl
theorem tw_669 : (Jvm.Cond.instanceMethod ({ cls := "DeckFront$Statement", name := "reference", desc := "(IZ)Z" } : Jvm.MethodName)) ∈ wG := wg_in (wt_3 (List.mem_of_getElem? (i := 189) rfl)) rfl
theorem tw_670 : (Jvm.Cond.code ({ cls := "DeckFront$Statement", name := "reference", desc := "(IZ)Z" } : Jvm.MethodName) prog_4_method_14_code (4 : Nat) (Option.some Jvm.ClassFile.FieldType.boolean)) ∈ wG := wg_in (wt_3 (List.mem_of_getElem? (i := 190) rfl)) rfl
theorem tw_672 : (Jvm.Cond.methodLink "DeckFront$Statement" (86 : Nat) ({ cls := "DeckFront$Statement", name := "list", desc := "(I)Z" } : Jvm.MethodName)) ∈ wG := wg_in (wt_3 (List.mem_of_getElem? (i := 192) rfl)) rfl
theorem tw_674 : (Jvm.Cond.instanceMethod ({ cls := "DeckFront$Statement", name := "list", desc := "(I)Z" } : Jvm.MethodName)) ∈ wG := wg_in (wt_3 (List.mem_of_getElem? (i := 194) rfl)) rfl
theorem tw_675 : (Jvm.Cond.code ({ cls := "DeckFront$Statement", name := "list", desc := "(I)Z" } : Jvm.MethodName) prog_4_method_15_code (2 : Nat) (Option.some Jvm.ClassFile.FieldType.boolean)) ∈ wG := wg_in (wt_3 (List.mem_of_getElem? (i := 195) rfl)) rfl
theorem tw_677 : (Jvm.Cond.methodLink "DeckFront$Statement" (95 : Nat) ({ cls := "DeckFront$Statement", name := "expressions", desc := "(I)Z" } : Jvm.MethodName)) ∈ wG := wg_in (wt_3 (List.mem_of_getElem? (i := 197) rfl)) rfl
theorem tw_679 : (Jvm.Cond.instanceMethod ({ cls := "DeckFront$Statement", name := "expressions", desc := "(I)Z" } : Jvm.MethodName)) ∈ wG := wg_in (wt_3 (List.mem_of_getElem? (i := 199) rfl)) rfl
theorem tw_680 : (Jvm.Cond.code ({ cls := "DeckFront$Statement", name := "expressions", desc := "(I)Z" } : Jvm.MethodName) prog_4_method_16_code (4 : Nat) (Option.some Jvm.ClassFile.FieldType.boolean)) ∈ wG := wg_in (wt_3 (List.mem_of_getElem? (i := 200) rfl)) rfl
theorem tw_684 : (Jvm.Cond.methodLink "DeckFront$Statement" (124 : Nat) ({ cls := "DeckFront$Statement", name := "close", desc := "(I)V" } : Jvm.MethodName)) ∈ wG := wg_in (wt_3 (List.mem_of_getElem? (i := 204) rfl)) rfl
theorem tw_685 : (Jvm.Cond.sameMethod "DeckFront$Statement" "DeckFront$Tape" "close" "(I)V") ∈ wG := wg_in (wt_3 (List.mem_of_getElem? (i := 205) rfl)) rfl
theorem tw_687 : (Jvm.Cond.selects "DeckFront$Statement" ({ cls := "DeckFront$Statement", name := "close", desc := "(I)V" } : Jvm.MethodName) ({ cls := "DeckFront$Tape", name := "close", desc := "(I)V" } : Jvm.MethodName)) ∈ wG := wg_in (wt_3 (List.mem_of_getElem? (i := 207) rfl)) rfl
theorem tw_688 : (Jvm.Cond.instanceMethod ({ cls := "DeckFront$Tape", name := "close", desc := "(I)V" } : Jvm.MethodName)) ∈ wG := wg_in (wt_3 (List.mem_of_getElem? (i := 208) rfl)) rfl
theorem tw_689 : (Jvm.Cond.code ({ cls := "DeckFront$Tape", name := "close", desc := "(I)V" } : Jvm.MethodName) prog_6_method_16_code (2 : Nat) (Option.none : Option Jvm.ClassFile.FieldType)) ∈ wG := wg_in (wt_3 (List.mem_of_getElem? (i := 209) rfl)) rfl
theorem tw_690 : (Jvm.Cond.methodLink "DeckFront$Statement" (121 : Nat) ({ cls := "DeckFront$Statement", name := "takeSignsBefore", desc := "(I)I" } : Jvm.MethodName)) ∈ wG := wg_in (wt_3 (List.mem_of_getElem? (i := 210) rfl)) rfl
theorem tw_692 : (Jvm.Cond.instanceMethod ({ cls := "DeckFront$Statement", name := "takeSignsBefore", desc := "(I)I" } : Jvm.MethodName)) ∈ wG := wg_in (wt_3 (List.mem_of_getElem? (i := 212) rfl)) rfl
theorem tw_693 : (Jvm.Cond.code ({ cls := "DeckFront$Statement", name := "takeSignsBefore", desc := "(I)I" } : Jvm.MethodName) prog_4_method_9_code (4 : Nat) (Option.some Jvm.ClassFile.FieldType.int)) ∈ wG := wg_in (wt_3 (List.mem_of_getElem? (i := 213) rfl)) rfl
theorem tw_695 : (Jvm.Cond.methodLink "DeckFront$Statement" (136 : Nat) ({ cls := "DeckFront$Statement", name := "stands", desc := "(ILjava/lang/String;)Z" } : Jvm.MethodName)) ∈ wG := wg_in (wt_3 (List.mem_of_getElem? (i := 215) rfl)) rfl
theorem tw_696 : (Jvm.Cond.sameMethod "DeckFront$Statement" "DeckFront$Tape" "stands" "(ILjava/lang/String;)Z") ∈ wG := wg_in (wt_3 (List.mem_of_getElem? (i := 216) rfl)) rfl
theorem tw_698 : (Jvm.Cond.selects "DeckFront$Statement" ({ cls := "DeckFront$Statement", name := "stands", desc := "(ILjava/lang/String;)Z" } : Jvm.MethodName) ({ cls := "DeckFront$Tape", name := "stands", desc := "(ILjava/lang/String;)Z" } : Jvm.MethodName)) ∈ wG := wg_in (wt_3 (List.mem_of_getElem? (i := 218) rfl)) rfl
theorem tw_699 : (Jvm.Cond.methodLink "DeckFront$Statement" (127 : Nat) ({ cls := "DeckFront$Statement", name := "takeSignBetween", desc := "(I)Z" } : Jvm.MethodName)) ∈ wG := wg_in (wt_3 (List.mem_of_getElem? (i := 219) rfl)) rfl
theorem tw_701 : (Jvm.Cond.instanceMethod ({ cls := "DeckFront$Statement", name := "takeSignBetween", desc := "(I)Z" } : Jvm.MethodName)) ∈ wG := wg_in (wt_3 (List.mem_of_getElem? (i := 221) rfl)) rfl
theorem tw_702 : (Jvm.Cond.code ({ cls := "DeckFront$Statement", name := "takeSignBetween", desc := "(I)Z" } : Jvm.MethodName) prog_4_method_10_code (2 : Nat) (Option.some Jvm.ClassFile.FieldType.boolean)) ∈ wG := wg_in (wt_3 (List.mem_of_getElem? (i := 222) rfl)) rfl
theorem tw_730 : (Jvm.Cond.methodLink "DeckFront$Statement" (106 : Nat) ({ cls := "DeckFront$Statement", name := "series", desc := "(I)Z" } : Jvm.MethodName)) ∈ wG := wg_in (wt_4 (List.mem_of_getElem? (i := 10) rfl)) rfl
theorem tw_732 : (Jvm.Cond.instanceMethod ({ cls := "DeckFront$Statement", name := "series", desc := "(I)Z" } : Jvm.MethodName)) ∈ wG := wg_in (wt_4 (List.mem_of_getElem? (i := 12) rfl)) rfl
theorem tw_733 : (Jvm.Cond.code ({ cls := "DeckFront$Statement", name := "series", desc := "(I)Z" } : Jvm.MethodName) prog_4_method_6_code (4 : Nat) (Option.some Jvm.ClassFile.FieldType.boolean)) ∈ wG := wg_in (wt_4 (List.mem_of_getElem? (i := 13) rfl)) rfl
theorem tw_734 : (Jvm.Cond.methodLink "DeckFront$Statement" (113 : Nat) ({ cls := "DeckFront$Statement", name := "item", desc := "(I)Z" } : Jvm.MethodName)) ∈ wG := wg_in (wt_4 (List.mem_of_getElem? (i := 14) rfl)) rfl
theorem tw_736 : (Jvm.Cond.instanceMethod ({ cls := "DeckFront$Statement", name := "item", desc := "(I)Z" } : Jvm.MethodName)) ∈ wG := wg_in (wt_4 (List.mem_of_getElem? (i := 16) rfl)) rfl
theorem tw_737 : (Jvm.Cond.code ({ cls := "DeckFront$Statement", name := "item", desc := "(I)Z" } : Jvm.MethodName) prog_4_method_7_code (2 : Nat) (Option.some Jvm.ClassFile.FieldType.boolean)) ∈ wG := wg_in (wt_4 (List.mem_of_getElem? (i := 17) rfl)) rfl
theorem tw_740 : (Jvm.Cond.methodLink "DeckFront$Statement" (37 : Nat) ({ cls := "DeckFront$Statement", name := "mayStandInIf", desc := "(I)Z" } : Jvm.MethodName)) ∈ wG := wg_in (wt_4 (List.mem_of_getElem? (i := 20) rfl)) rfl
theorem tw_741 : (Jvm.Cond.static ({ cls := "DeckFront$Statement", name := "mayStandInIf", desc := "(I)Z" } : Jvm.MethodName)) ∈ wG := wg_in (wt_4 (List.mem_of_getElem? (i := 21) rfl)) rfl
theorem tw_742 : (Jvm.Cond.code ({ cls := "DeckFront$Statement", name := "mayStandInIf", desc := "(I)Z" } : Jvm.MethodName) prog_4_method_3_code (1 : Nat) (Option.some Jvm.ClassFile.FieldType.boolean)) ∈ wG := wg_in (wt_4 (List.mem_of_getElem? (i := 22) rfl)) rfl
theorem tw_743 : (Jvm.Cond.classLink "DeckFrontLaw" (18 : Nat) "DeckFrontModel") ∈ wG := wg_in (wt_4 (List.mem_of_getElem? (i := 23) rfl)) rfl
theorem tw_744 : (Jvm.Cond.instantiable "DeckFrontModel" (36 : Nat)) ∈ wG := wg_in (wt_4 (List.mem_of_getElem? (i := 24) rfl)) rfl
theorem tw_745 : (Jvm.Cond.methodLink "DeckFrontLaw" (20 : Nat) ({ cls := "DeckFrontModel", name := "<init>", desc := "()V" } : Jvm.MethodName)) ∈ wG := wg_in (wt_4 (List.mem_of_getElem? (i := 25) rfl)) rfl
theorem tw_746 : (Jvm.Cond.instanceMethod ({ cls := "DeckFrontModel", name := "<init>", desc := "()V" } : Jvm.MethodName)) ∈ wG := wg_in (wt_4 (List.mem_of_getElem? (i := 26) rfl)) rfl
theorem tw_747 : (Jvm.Cond.code ({ cls := "DeckFrontModel", name := "<init>", desc := "()V" } : Jvm.MethodName) prog_8_method_1_code (1 : Nat) (Option.none : Option Jvm.ClassFile.FieldType)) ∈ wG := wg_in (wt_4 (List.mem_of_getElem? (i := 27) rfl)) rfl
theorem tw_748 : (Jvm.Cond.methodLink "DeckFrontModel" (1 : Nat) ({ cls := "java/lang/Object", name := "<init>", desc := "()V" } : Jvm.MethodName)) ∈ wG := wg_in (wt_4 (List.mem_of_getElem? (i := 28) rfl)) rfl
theorem tw_749 : (Jvm.Cond.fieldLink "DeckFrontModel" (82 : Nat) "DeckFrontModel" "thrown" "I") ∈ wG := wg_in (wt_4 (List.mem_of_getElem? (i := 29) rfl)) rfl
theorem tw_750 : (Jvm.Cond.fieldLink "DeckFrontModel" (96 : Nat) "DeckFrontModel" "typed" "I") ∈ wG := wg_in (wt_4 (List.mem_of_getElem? (i := 30) rfl)) rfl
theorem tw_751 : (Jvm.Cond.fieldLink "DeckFrontModel" (7 : Nat) "DeckFrontModel" "card" "[C") ∈ wG := wg_in (wt_4 (List.mem_of_getElem? (i := 31) rfl)) rfl
theorem tw_752 : (Jvm.Cond.fieldLink "DeckFrontModel" (99 : Nat) "DeckFrontModel" "statements" "I") ∈ wG := wg_in (wt_4 (List.mem_of_getElem? (i := 32) rfl)) rfl
theorem tw_753 : (Jvm.Cond.fieldLink "DeckFrontModel" (13 : Nat) "DeckFrontModel" "labels" "[I") ∈ wG := wg_in (wt_4 (List.mem_of_getElem? (i := 33) rfl)) rfl
theorem tw_754 : (Jvm.Cond.fieldLink "DeckFrontModel" (17 : Nat) "DeckFrontModel" "sizes" "[I") ∈ wG := wg_in (wt_4 (List.mem_of_getElem? (i := 34) rfl)) rfl
theorem tw_755 : (Jvm.Cond.fieldLink "DeckFrontModel" (20 : Nat) "DeckFrontModel" "texts" "[C") ∈ wG := wg_in (wt_4 (List.mem_of_getElem? (i := 35) rfl)) rfl
theorem tw_756 : (Jvm.Cond.fieldLink "DeckFrontModel" (319 : Nat) "DeckFrontModel" "begin" "I") ∈ wG := wg_in (wt_4 (List.mem_of_getElem? (i := 36) rfl)) rfl
theorem tw_757 : (Jvm.Cond.fieldLink "DeckFrontModel" (116 : Nat) "DeckFrontModel" "end" "I") ∈ wG := wg_in (wt_4 (List.mem_of_getElem? (i := 37) rfl)) rfl
theorem tw_758 : (Jvm.Cond.fieldLink "DeckFrontModel" (126 : Nat) "DeckFrontModel" "p" "I") ∈ wG := wg_in (wt_4 (List.mem_of_getElem? (i := 38) rfl)) rfl
theorem tw_759 : (Jvm.Cond.fieldLink "DeckFrontModel" (119 : Nat) "DeckFrontModel" "shown" "I") ∈ wG := wg_in (wt_4 (List.mem_of_getElem? (i := 39) rfl)) rfl
theorem tw_760 : (Jvm.Cond.fieldLink "DeckFrontModel" (23 : Nat) "DeckFrontModel" "show" "[C") ∈ wG := wg_in (wt_4 (List.mem_of_getElem? (i := 40) rfl)) rfl
theorem tw_761 : (Jvm.Cond.fieldLink "DeckFrontModel" (138 : Nat) "DeckFrontModel" "names" "I") ∈ wG := wg_in (wt_4 (List.mem_of_getElem? (i := 41) rfl)) rfl
theorem tw_762 : (Jvm.Cond.fieldLink "DeckFrontModel" (26 : Nat) "DeckFrontModel" "nameOf" "[J") ∈ wG := wg_in (wt_4 (List.mem_of_getElem? (i := 42) rfl)) rfl
theorem tw_763 : (Jvm.Cond.fieldLink "DeckFrontModel" (30 : Nat) "DeckFrontModel" "useOf" "[I") ∈ wG := wg_in (wt_4 (List.mem_of_getElem? (i := 43) rfl)) rfl
theorem tw_764 : (Jvm.Cond.fieldLink "DeckFrontModel" (33 : Nat) "DeckFrontModel" "typeOf" "[I") ∈ wG := wg_in (wt_4 (List.mem_of_getElem? (i := 44) rfl)) rfl
theorem tw_765 : (Jvm.Cond.fieldLink "DeckFrontModel" (244 : Nat) "DeckFrontModel" "aims" "I") ∈ wG := wg_in (wt_4 (List.mem_of_getElem? (i := 45) rfl)) rfl
theorem tw_766 : (Jvm.Cond.fieldLink "DeckFrontModel" (36 : Nat) "DeckFrontModel" "aim" "[I") ∈ wG := wg_in (wt_4 (List.mem_of_getElem? (i := 46) rfl)) rfl
theorem tw_767 : (Jvm.Cond.fieldLink "DeckFrontModel" (173 : Nat) "DeckFrontModel" "parts" "I") ∈ wG := wg_in (wt_4 (List.mem_of_getElem? (i := 47) rfl)) rfl
theorem tw_768 : (Jvm.Cond.fieldLink "DeckFrontModel" (39 : Nat) "DeckFrontModel" "from" "[I") ∈ wG := wg_in (wt_4 (List.mem_of_getElem? (i := 48) rfl)) rfl
theorem tw_769 : (Jvm.Cond.fieldLink "DeckFrontModel" (42 : Nat) "DeckFrontModel" "to" "[I") ∈ wG := wg_in (wt_4 (List.mem_of_getElem? (i := 49) rfl)) rfl
theorem tw_770 : (Jvm.Cond.fieldLink "DeckFrontModel" (45 : Nat) "DeckFrontModel" "left" "[I") ∈ wG := wg_in (wt_4 (List.mem_of_getElem? (i := 50) rfl)) rfl
theorem tw_771 : (Jvm.Cond.fieldLink "DeckFrontModel" (48 : Nat) "DeckFrontModel" "right" "[I") ∈ wG := wg_in (wt_4 (List.mem_of_getElem? (i := 51) rfl)) rfl
theorem tw_772 : (Jvm.Cond.fieldLink "DeckFrontModel" (51 : Nat) "DeckFrontModel" "next" "[I") ∈ wG := wg_in (wt_4 (List.mem_of_getElem? (i := 52) rfl)) rfl
theorem tw_773 : (Jvm.Cond.fieldLink "DeckFrontModel" (54 : Nat) "DeckFrontModel" "sort" "[I") ∈ wG := wg_in (wt_4 (List.mem_of_getElem? (i := 53) rfl)) rfl
theorem tw_774 : (Jvm.Cond.fieldLink "DeckFrontModel" (176 : Nat) "DeckFrontModel" "values" "I") ∈ wG := wg_in (wt_4 (List.mem_of_getElem? (i := 54) rfl)) rfl
theorem tw_775 : (Jvm.Cond.fieldLink "DeckFrontModel" (57 : Nat) "DeckFrontModel" "pile" "[I") ∈ wG := wg_in (wt_4 (List.mem_of_getElem? (i := 55) rfl)) rfl
theorem tw_776 : (Jvm.Cond.fieldLink "DeckFrontModel" (179 : Nat) "DeckFrontModel" "signs" "I") ∈ wG := wg_in (wt_4 (List.mem_of_getElem? (i := 56) rfl)) rfl
theorem tw_777 : (Jvm.Cond.fieldLink "DeckFrontModel" (60 : Nat) "DeckFrontModel" "binds" "[I") ∈ wG := wg_in (wt_4 (List.mem_of_getElem? (i := 57) rfl)) rfl
theorem tw_778 : (Jvm.Cond.fieldLink "DeckFrontModel" (63 : Nat) "DeckFrontModel" "signFrom" "[I") ∈ wG := wg_in (wt_4 (List.mem_of_getElem? (i := 58) rfl)) rfl
theorem tw_779 : (Jvm.Cond.fieldLink "DeckFrontModel" (66 : Nat) "DeckFrontModel" "signTo" "[I") ∈ wG := wg_in (wt_4 (List.mem_of_getElem? (i := 59) rfl)) rfl
theorem tw_780 : (Jvm.Cond.fieldLink "DeckFrontModel" (69 : Nat) "DeckFrontModel" "before" "[Z") ∈ wG := wg_in (wt_4 (List.mem_of_getElem? (i := 60) rfl)) rfl
theorem tw_781 : (Jvm.Cond.fieldLink "DeckFrontModel" (73 : Nat) "DeckFrontModel" "writes" "[I") ∈ wG := wg_in (wt_4 (List.mem_of_getElem? (i := 61) rfl)) rfl
theorem tw_782 : (Jvm.Cond.fieldLink "DeckFrontModel" (336 : Nat) "DeckFrontModel" "open" "I") ∈ wG := wg_in (wt_4 (List.mem_of_getElem? (i := 62) rfl)) rfl
theorem tw_783 : (Jvm.Cond.fieldLink "DeckFrontModel" (76 : Nat) "DeckFrontModel" "opened" "[I") ∈ wG := wg_in (wt_4 (List.mem_of_getElem? (i := 63) rfl)) rfl
theorem tw_784 : (Jvm.Cond.fieldLink "DeckFrontModel" (79 : Nat) "DeckFrontModel" "hadElse" "[Z") ∈ wG := wg_in (wt_4 (List.mem_of_getElem? (i := 64) rfl)) rfl
theorem tw_785 : (Jvm.Cond.lays "DeckFrontModel" "DeckFrontModel" "thrown" "I") ∈ wG := wg_in (wt_4 (List.mem_of_getElem? (i := 65) rfl)) rfl
theorem tw_787 : (Jvm.Cond.lays "DeckFrontModel" "DeckFrontModel" "typed" "I") ∈ wG := wg_in (wt_4 (List.mem_of_getElem? (i := 67) rfl)) rfl
theorem tw_789 : (Jvm.Cond.laysFinal "DeckFrontModel" "DeckFrontModel" "card" "[C") ∈ wG := wg_in (wt_4 (List.mem_of_getElem? (i := 69) rfl)) rfl
theorem tw_791 : (Jvm.Cond.lays "DeckFrontModel" "DeckFrontModel" "statements" "I") ∈ wG := wg_in (wt_4 (List.mem_of_getElem? (i := 71) rfl)) rfl
theorem tw_793 : (Jvm.Cond.laysFinal "DeckFrontModel" "DeckFrontModel" "labels" "[I") ∈ wG := wg_in (wt_4 (List.mem_of_getElem? (i := 73) rfl)) rfl
theorem tw_795 : (Jvm.Cond.laysFinal "DeckFrontModel" "DeckFrontModel" "sizes" "[I") ∈ wG := wg_in (wt_4 (List.mem_of_getElem? (i := 75) rfl)) rfl
theorem tw_797 : (Jvm.Cond.laysFinal "DeckFrontModel" "DeckFrontModel" "texts" "[C") ∈ wG := wg_in (wt_4 (List.mem_of_getElem? (i := 77) rfl)) rfl
theorem tw_799 : (Jvm.Cond.lays "DeckFrontModel" "DeckFrontModel" "begin" "I") ∈ wG := wg_in (wt_4 (List.mem_of_getElem? (i := 79) rfl)) rfl
theorem tw_801 : (Jvm.Cond.lays "DeckFrontModel" "DeckFrontModel" "end" "I") ∈ wG := wg_in (wt_4 (List.mem_of_getElem? (i := 81) rfl)) rfl
theorem tw_803 : (Jvm.Cond.lays "DeckFrontModel" "DeckFrontModel" "p" "I") ∈ wG := wg_in (wt_4 (List.mem_of_getElem? (i := 83) rfl)) rfl
theorem tw_805 : (Jvm.Cond.lays "DeckFrontModel" "DeckFrontModel" "shown" "I") ∈ wG := wg_in (wt_4 (List.mem_of_getElem? (i := 85) rfl)) rfl
theorem tw_807 : (Jvm.Cond.laysFinal "DeckFrontModel" "DeckFrontModel" "show" "[C") ∈ wG := wg_in (wt_4 (List.mem_of_getElem? (i := 87) rfl)) rfl
theorem tw_809 : (Jvm.Cond.lays "DeckFrontModel" "DeckFrontModel" "names" "I") ∈ wG := wg_in (wt_4 (List.mem_of_getElem? (i := 89) rfl)) rfl
theorem tw_811 : (Jvm.Cond.laysFinal "DeckFrontModel" "DeckFrontModel" "nameOf" "[J") ∈ wG := wg_in (wt_4 (List.mem_of_getElem? (i := 91) rfl)) rfl
theorem tw_813 : (Jvm.Cond.laysFinal "DeckFrontModel" "DeckFrontModel" "useOf" "[I") ∈ wG := wg_in (wt_4 (List.mem_of_getElem? (i := 93) rfl)) rfl
theorem tw_815 : (Jvm.Cond.laysFinal "DeckFrontModel" "DeckFrontModel" "typeOf" "[I") ∈ wG := wg_in (wt_4 (List.mem_of_getElem? (i := 95) rfl)) rfl
theorem tw_817 : (Jvm.Cond.lays "DeckFrontModel" "DeckFrontModel" "aims" "I") ∈ wG := wg_in (wt_4 (List.mem_of_getElem? (i := 97) rfl)) rfl
theorem tw_819 : (Jvm.Cond.laysFinal "DeckFrontModel" "DeckFrontModel" "aim" "[I") ∈ wG := wg_in (wt_4 (List.mem_of_getElem? (i := 99) rfl)) rfl
theorem tw_821 : (Jvm.Cond.lays "DeckFrontModel" "DeckFrontModel" "parts" "I") ∈ wG := wg_in (wt_4 (List.mem_of_getElem? (i := 101) rfl)) rfl
theorem tw_823 : (Jvm.Cond.laysFinal "DeckFrontModel" "DeckFrontModel" "from" "[I") ∈ wG := wg_in (wt_4 (List.mem_of_getElem? (i := 103) rfl)) rfl
theorem tw_825 : (Jvm.Cond.laysFinal "DeckFrontModel" "DeckFrontModel" "to" "[I") ∈ wG := wg_in (wt_4 (List.mem_of_getElem? (i := 105) rfl)) rfl
theorem tw_827 : (Jvm.Cond.laysFinal "DeckFrontModel" "DeckFrontModel" "left" "[I") ∈ wG := wg_in (wt_4 (List.mem_of_getElem? (i := 107) rfl)) rfl
theorem tw_829 : (Jvm.Cond.laysFinal "DeckFrontModel" "DeckFrontModel" "right" "[I") ∈ wG := wg_in (wt_4 (List.mem_of_getElem? (i := 109) rfl)) rfl
theorem tw_831 : (Jvm.Cond.laysFinal "DeckFrontModel" "DeckFrontModel" "next" "[I") ∈ wG := wg_in (wt_4 (List.mem_of_getElem? (i := 111) rfl)) rfl
theorem tw_833 : (Jvm.Cond.laysFinal "DeckFrontModel" "DeckFrontModel" "sort" "[I") ∈ wG := wg_in (wt_4 (List.mem_of_getElem? (i := 113) rfl)) rfl
theorem tw_835 : (Jvm.Cond.lays "DeckFrontModel" "DeckFrontModel" "values" "I") ∈ wG := wg_in (wt_4 (List.mem_of_getElem? (i := 115) rfl)) rfl
theorem tw_837 : (Jvm.Cond.laysFinal "DeckFrontModel" "DeckFrontModel" "pile" "[I") ∈ wG := wg_in (wt_4 (List.mem_of_getElem? (i := 117) rfl)) rfl
theorem tw_839 : (Jvm.Cond.lays "DeckFrontModel" "DeckFrontModel" "signs" "I") ∈ wG := wg_in (wt_4 (List.mem_of_getElem? (i := 119) rfl)) rfl
theorem tw_841 : (Jvm.Cond.laysFinal "DeckFrontModel" "DeckFrontModel" "binds" "[I") ∈ wG := wg_in (wt_4 (List.mem_of_getElem? (i := 121) rfl)) rfl
theorem tw_843 : (Jvm.Cond.laysFinal "DeckFrontModel" "DeckFrontModel" "signFrom" "[I") ∈ wG := wg_in (wt_4 (List.mem_of_getElem? (i := 123) rfl)) rfl
theorem tw_845 : (Jvm.Cond.laysFinal "DeckFrontModel" "DeckFrontModel" "signTo" "[I") ∈ wG := wg_in (wt_4 (List.mem_of_getElem? (i := 125) rfl)) rfl
theorem tw_847 : (Jvm.Cond.laysFinal "DeckFrontModel" "DeckFrontModel" "before" "[Z") ∈ wG := wg_in (wt_4 (List.mem_of_getElem? (i := 127) rfl)) rfl
theorem tw_849 : (Jvm.Cond.laysFinal "DeckFrontModel" "DeckFrontModel" "writes" "[I") ∈ wG := wg_in (wt_4 (List.mem_of_getElem? (i := 129) rfl)) rfl
theorem tw_851 : (Jvm.Cond.lays "DeckFrontModel" "DeckFrontModel" "open" "I") ∈ wG := wg_in (wt_4 (List.mem_of_getElem? (i := 131) rfl)) rfl
theorem tw_853 : (Jvm.Cond.laysFinal "DeckFrontModel" "DeckFrontModel" "opened" "[I") ∈ wG := wg_in (wt_4 (List.mem_of_getElem? (i := 133) rfl)) rfl
theorem tw_855 : (Jvm.Cond.laysFinal "DeckFrontModel" "DeckFrontModel" "hadElse" "[Z") ∈ wG := wg_in (wt_4 (List.mem_of_getElem? (i := 135) rfl)) rfl
theorem tw_858 : (Jvm.Cond.arrayClass Jvm.ClassFile.FieldType.long) ∈ wG := wg_in (wt_4 (List.mem_of_getElem? (i := 138) rfl)) rfl
theorem tw_859 : (Jvm.Cond.arrayClass Jvm.ClassFile.FieldType.boolean) ∈ wG := wg_in (wt_4 (List.mem_of_getElem? (i := 139) rfl)) rfl
theorem tw_860 : (Jvm.Cond.methodLink "DeckFrontLaw" (34 : Nat) ({ cls := "DeckFrontModel", name := "thrown", desc := "()I" } : Jvm.MethodName)) ∈ wG := wg_in (wt_4 (List.mem_of_getElem? (i := 140) rfl)) rfl
theorem tw_861 : (Jvm.Cond.instanceMethod ({ cls := "DeckFrontModel", name := "thrown", desc := "()I" } : Jvm.MethodName)) ∈ wG := wg_in (wt_4 (List.mem_of_getElem? (i := 141) rfl)) rfl
theorem tw_862 : (Jvm.Cond.selects "DeckFrontModel" ({ cls := "DeckFrontModel", name := "thrown", desc := "()I" } : Jvm.MethodName) ({ cls := "DeckFrontModel", name := "thrown", desc := "()I" } : Jvm.MethodName)) ∈ wG := wg_in (wt_4 (List.mem_of_getElem? (i := 142) rfl)) rfl
theorem tw_863 : (Jvm.Cond.code ({ cls := "DeckFrontModel", name := "thrown", desc := "()I" } : Jvm.MethodName) prog_8_method_2_code (1 : Nat) (Option.some Jvm.ClassFile.FieldType.int)) ∈ wG := wg_in (wt_4 (List.mem_of_getElem? (i := 143) rfl)) rfl
theorem tw_864 : (Jvm.Cond.methodLink "DeckFrontLaw" (27 : Nat) ({ cls := "DeckFrontModel", name := "write", desc := "(J)Z" } : Jvm.MethodName)) ∈ wG := wg_in (wt_4 (List.mem_of_getElem? (i := 144) rfl)) rfl
theorem tw_865 : (Jvm.Cond.instanceMethod ({ cls := "DeckFrontModel", name := "write", desc := "(J)Z" } : Jvm.MethodName)) ∈ wG := wg_in (wt_4 (List.mem_of_getElem? (i := 145) rfl)) rfl
theorem tw_866 : (Jvm.Cond.selects "DeckFrontModel" ({ cls := "DeckFrontModel", name := "write", desc := "(J)Z" } : Jvm.MethodName) ({ cls := "DeckFrontModel", name := "write", desc := "(J)Z" } : Jvm.MethodName)) ∈ wG := wg_in (wt_4 (List.mem_of_getElem? (i := 146) rfl)) rfl
theorem tw_867 : (Jvm.Cond.code ({ cls := "DeckFrontModel", name := "write", desc := "(J)Z" } : Jvm.MethodName) prog_8_method_6_code (6 : Nat) (Option.some Jvm.ClassFile.FieldType.boolean)) ∈ wG := wg_in (wt_4 (List.mem_of_getElem? (i := 147) rfl)) rfl
theorem tw_868 : (Jvm.Cond.methodLink "DeckFrontModel" (93 : Nat) ({ cls := "DeckFrontModel", name := "mayStand", desc := "(I)Z" } : Jvm.MethodName)) ∈ wG := wg_in (wt_4 (List.mem_of_getElem? (i := 148) rfl)) rfl
theorem tw_869 : (Jvm.Cond.static ({ cls := "DeckFrontModel", name := "mayStand", desc := "(I)Z" } : Jvm.MethodName)) ∈ wG := wg_in (wt_4 (List.mem_of_getElem? (i := 149) rfl)) rfl
theorem tw_870 : (Jvm.Cond.code ({ cls := "DeckFrontModel", name := "mayStand", desc := "(I)Z" } : Jvm.MethodName) prog_8_method_5_code (1 : Nat) (Option.some Jvm.ClassFile.FieldType.boolean)) ∈ wG := wg_in (wt_4 (List.mem_of_getElem? (i := 150) rfl)) rfl
theorem tw_871 : (Jvm.Cond.methodLink "DeckFrontModel" (86 : Nat) ({ cls := "DeckFrontModel", name := "isLetter", desc := "(I)Z" } : Jvm.MethodName)) ∈ wG := wg_in (wt_4 (List.mem_of_getElem? (i := 151) rfl)) rfl
theorem tw_872 : (Jvm.Cond.static ({ cls := "DeckFrontModel", name := "isLetter", desc := "(I)Z" } : Jvm.MethodName)) ∈ wG := wg_in (wt_4 (List.mem_of_getElem? (i := 152) rfl)) rfl
theorem tw_873 : (Jvm.Cond.code ({ cls := "DeckFrontModel", name := "isLetter", desc := "(I)Z" } : Jvm.MethodName) prog_8_method_3_code (1 : Nat) (Option.some Jvm.ClassFile.FieldType.boolean)) ∈ wG := wg_in (wt_4 (List.mem_of_getElem? (i := 153) rfl)) rfl
theorem tw_874 : (Jvm.Cond.methodLink "DeckFrontModel" (90 : Nat) ({ cls := "DeckFrontModel", name := "isDigit", desc := "(I)Z" } : Jvm.MethodName)) ∈ wG := wg_in (wt_4 (List.mem_of_getElem? (i := 154) rfl)) rfl
theorem tw_875 : (Jvm.Cond.static ({ cls := "DeckFrontModel", name := "isDigit", desc := "(I)Z" } : Jvm.MethodName)) ∈ wG := wg_in (wt_4 (List.mem_of_getElem? (i := 155) rfl)) rfl
theorem tw_876 : (Jvm.Cond.code ({ cls := "DeckFrontModel", name := "isDigit", desc := "(I)Z" } : Jvm.MethodName) prog_8_method_4_code (1 : Nat) (Option.some Jvm.ClassFile.FieldType.boolean)) ∈ wG := wg_in (wt_4 (List.mem_of_getElem? (i := 156) rfl)) rfl
theorem tw_877 : (Jvm.Cond.methodLink "DeckFrontLaw" (33 : Nat) ({ cls := "DeckFrontModel", name := "card", desc := "()I" } : Jvm.MethodName)) ∈ wG := wg_in (wt_4 (List.mem_of_getElem? (i := 157) rfl)) rfl
theorem tw_878 : (Jvm.Cond.instanceMethod ({ cls := "DeckFrontModel", name := "card", desc := "()I" } : Jvm.MethodName)) ∈ wG := wg_in (wt_4 (List.mem_of_getElem? (i := 158) rfl)) rfl
theorem tw_879 : (Jvm.Cond.selects "DeckFrontModel" ({ cls := "DeckFrontModel", name := "card", desc := "()I" } : Jvm.MethodName) ({ cls := "DeckFrontModel", name := "card", desc := "()I" } : Jvm.MethodName)) ∈ wG := wg_in (wt_4 (List.mem_of_getElem? (i := 159) rfl)) rfl
theorem tw_880 : (Jvm.Cond.code ({ cls := "DeckFrontModel", name := "card", desc := "()I" } : Jvm.MethodName) prog_8_method_10_code (3 : Nat) (Option.some Jvm.ClassFile.FieldType.int)) ∈ wG := wg_in (wt_4 (List.mem_of_getElem? (i := 160) rfl)) rfl
theorem tw_881 : (Jvm.Cond.methodLink "DeckFrontModel" (105 : Nat) ({ cls := "DeckFrontModel", name := "isComment", desc := "()Z" } : Jvm.MethodName)) ∈ wG := wg_in (wt_4 (List.mem_of_getElem? (i := 161) rfl)) rfl
theorem tw_883 : (Jvm.Cond.instanceMethod ({ cls := "DeckFrontModel", name := "isComment", desc := "()Z" } : Jvm.MethodName)) ∈ wG := wg_in (wt_4 (List.mem_of_getElem? (i := 163) rfl)) rfl
theorem tw_884 : (Jvm.Cond.code ({ cls := "DeckFrontModel", name := "isComment", desc := "()Z" } : Jvm.MethodName) prog_8_method_7_code (3 : Nat) (Option.some Jvm.ClassFile.FieldType.boolean)) ∈ wG := wg_in (wt_4 (List.mem_of_getElem? (i := 164) rfl)) rfl
theorem tw_885 : (Jvm.Cond.methodLink "DeckFrontModel" (109 : Nat) ({ cls := "DeckFrontModel", name := "joined", desc := "(I)I" } : Jvm.MethodName)) ∈ wG := wg_in (wt_4 (List.mem_of_getElem? (i := 165) rfl)) rfl
theorem tw_887 : (Jvm.Cond.instanceMethod ({ cls := "DeckFrontModel", name := "joined", desc := "(I)I" } : Jvm.MethodName)) ∈ wG := wg_in (wt_4 (List.mem_of_getElem? (i := 167) rfl)) rfl
theorem tw_888 : (Jvm.Cond.code ({ cls := "DeckFrontModel", name := "joined", desc := "(I)I" } : Jvm.MethodName) prog_8_method_9_code (10 : Nat) (Option.some Jvm.ClassFile.FieldType.int)) ∈ wG := wg_in (wt_4 (List.mem_of_getElem? (i := 168) rfl)) rfl
theorem tw_889 : (Jvm.Cond.methodLink "DeckFrontModel" (102 : Nat) ({ cls := "DeckFrontModel", name := "inQuote", desc := "(I)Z" } : Jvm.MethodName)) ∈ wG := wg_in (wt_4 (List.mem_of_getElem? (i := 169) rfl)) rfl
theorem tw_891 : (Jvm.Cond.instanceMethod ({ cls := "DeckFrontModel", name := "inQuote", desc := "(I)Z" } : Jvm.MethodName)) ∈ wG := wg_in (wt_4 (List.mem_of_getElem? (i := 171) rfl)) rfl
theorem tw_892 : (Jvm.Cond.code ({ cls := "DeckFrontModel", name := "inQuote", desc := "(I)Z" } : Jvm.MethodName) prog_8_method_8_code (4 : Nat) (Option.some Jvm.ClassFile.FieldType.boolean)) ∈ wG := wg_in (wt_4 (List.mem_of_getElem? (i := 172) rfl)) rfl
theorem tw_893 : (Jvm.Cond.methodLink "DeckFrontLaw" (40 : Nat) ({ cls := "DeckFrontModel", name := "clear", desc := "()V" } : Jvm.MethodName)) ∈ wG := wg_in (wt_4 (List.mem_of_getElem? (i := 173) rfl)) rfl
theorem tw_894 : (Jvm.Cond.instanceMethod ({ cls := "DeckFrontModel", name := "clear", desc := "()V" } : Jvm.MethodName)) ∈ wG := wg_in (wt_4 (List.mem_of_getElem? (i := 174) rfl)) rfl
theorem tw_895 : (Jvm.Cond.selects "DeckFrontModel" ({ cls := "DeckFrontModel", name := "clear", desc := "()V" } : Jvm.MethodName) ({ cls := "DeckFrontModel", name := "clear", desc := "()V" } : Jvm.MethodName)) ∈ wG := wg_in (wt_4 (List.mem_of_getElem? (i := 175) rfl)) rfl
theorem tw_896 : (Jvm.Cond.code ({ cls := "DeckFrontModel", name := "clear", desc := "()V" } : Jvm.MethodName) prog_8_method_11_code (1 : Nat) (Option.none : Option Jvm.ClassFile.FieldType)) ∈ wG := wg_in (wt_4 (List.mem_of_getElem? (i := 176) rfl)) rfl
theorem tw_897 : (Jvm.Cond.methodLink "DeckFrontLaw" (44 : Nat) ({ cls := "DeckFrontModel", name := "statements", desc := "()I" } : Jvm.MethodName)) ∈ wG := wg_in (wt_4 (List.mem_of_getElem? (i := 177) rfl)) rfl
theorem tw_898 : (Jvm.Cond.instanceMethod ({ cls := "DeckFrontModel", name := "statements", desc := "()I" } : Jvm.MethodName)) ∈ wG := wg_in (wt_4 (List.mem_of_getElem? (i := 178) rfl)) rfl
theorem tw_899 : (Jvm.Cond.selects "DeckFrontModel" ({ cls := "DeckFrontModel", name := "statements", desc := "()I" } : Jvm.MethodName) ({ cls := "DeckFrontModel", name := "statements", desc := "()I" } : Jvm.MethodName)) ∈ wG := wg_in (wt_4 (List.mem_of_getElem? (i := 179) rfl)) rfl
theorem tw_900 : (Jvm.Cond.code ({ cls := "DeckFrontModel", name := "statements", desc := "()I" } : Jvm.MethodName) prog_8_method_12_code (1 : Nat) (Option.some Jvm.ClassFile.FieldType.int)) ∈ wG := wg_in (wt_4 (List.mem_of_getElem? (i := 180) rfl)) rfl
theorem tw_901 : (Jvm.Cond.methodLink "DeckFrontLaw" (49 : Nat) ({ cls := "DeckFrontModel", name := "label", desc := "(I)I" } : Jvm.MethodName)) ∈ wG := wg_in (wt_4 (List.mem_of_getElem? (i := 181) rfl)) rfl
theorem tw_902 : (Jvm.Cond.instanceMethod ({ cls := "DeckFrontModel", name := "label", desc := "(I)I" } : Jvm.MethodName)) ∈ wG := wg_in (wt_4 (List.mem_of_getElem? (i := 182) rfl)) rfl
theorem tw_903 : (Jvm.Cond.selects "DeckFrontModel" ({ cls := "DeckFrontModel", name := "label", desc := "(I)I" } : Jvm.MethodName) ({ cls := "DeckFrontModel", name := "label", desc := "(I)I" } : Jvm.MethodName)) ∈ wG := wg_in (wt_4 (List.mem_of_getElem? (i := 183) rfl)) rfl
theorem tw_904 : (Jvm.Cond.code ({ cls := "DeckFrontModel", name := "label", desc := "(I)I" } : Jvm.MethodName) prog_8_method_14_code (2 : Nat) (Option.some Jvm.ClassFile.FieldType.int)) ∈ wG := wg_in (wt_4 (List.mem_of_getElem? (i := 184) rfl)) rfl
theorem tw_905 : (Jvm.Cond.methodLink "DeckFrontModel" (113 : Nat) ({ cls := "DeckFrontModel", name := "there", desc := "(I)Z" } : Jvm.MethodName)) ∈ wG := wg_in (wt_4 (List.mem_of_getElem? (i := 185) rfl)) rfl
theorem tw_907 : (Jvm.Cond.instanceMethod ({ cls := "DeckFrontModel", name := "there", desc := "(I)Z" } : Jvm.MethodName)) ∈ wG := wg_in (wt_4 (List.mem_of_getElem? (i := 187) rfl)) rfl
theorem tw_908 : (Jvm.Cond.code ({ cls := "DeckFrontModel", name := "there", desc := "(I)Z" } : Jvm.MethodName) prog_8_method_13_code (2 : Nat) (Option.some Jvm.ClassFile.FieldType.boolean)) ∈ wG := wg_in (wt_4 (List.mem_of_getElem? (i := 188) rfl)) rfl
theorem tw_909 : (Jvm.Cond.methodLink "DeckFrontLaw" (53 : Nat) ({ cls := "DeckFrontModel", name := "what", desc := "(I)I" } : Jvm.MethodName)) ∈ wG := wg_in (wt_4 (List.mem_of_getElem? (i := 189) rfl)) rfl
theorem tw_910 : (Jvm.Cond.instanceMethod ({ cls := "DeckFrontModel", name := "what", desc := "(I)I" } : Jvm.MethodName)) ∈ wG := wg_in (wt_4 (List.mem_of_getElem? (i := 190) rfl)) rfl
theorem tw_911 : (Jvm.Cond.selects "DeckFrontModel" ({ cls := "DeckFrontModel", name := "what", desc := "(I)I" } : Jvm.MethodName) ({ cls := "DeckFrontModel", name := "what", desc := "(I)I" } : Jvm.MethodName)) ∈ wG := wg_in (wt_4 (List.mem_of_getElem? (i := 191) rfl)) rfl
theorem tw_912 : (Jvm.Cond.code ({ cls := "DeckFrontModel", name := "what", desc := "(I)I" } : Jvm.MethodName) prog_8_method_54_code (2 : Nat) (Option.some Jvm.ClassFile.FieldType.int)) ∈ wG := wg_in (wt_4 (List.mem_of_getElem? (i := 192) rfl)) rfl
theorem tw_913 : (Jvm.Cond.methodLink "DeckFrontModel" (325 : Nat) ({ cls := "DeckFrontModel", name := "read", desc := "(I)I" } : Jvm.MethodName)) ∈ wG := wg_in (wt_4 (List.mem_of_getElem? (i := 193) rfl)) rfl
theorem tw_915 : (Jvm.Cond.instanceMethod ({ cls := "DeckFrontModel", name := "read", desc := "(I)I" } : Jvm.MethodName)) ∈ wG := wg_in (wt_4 (List.mem_of_getElem? (i := 195) rfl)) rfl
theorem tw_916 : (Jvm.Cond.code ({ cls := "DeckFrontModel", name := "read", desc := "(I)I" } : Jvm.MethodName) prog_8_method_53_code (3 : Nat) (Option.some Jvm.ClassFile.FieldType.int)) ∈ wG := wg_in (wt_4 (List.mem_of_getElem? (i := 196) rfl)) rfl
theorem tw_917 : (Jvm.Cond.methodLink "DeckFrontModel" (322 : Nat) ({ cls := "DeckFrontModel", name := "isIf", desc := "()Z" } : Jvm.MethodName)) ∈ wG := wg_in (wt_4 (List.mem_of_getElem? (i := 197) rfl)) rfl
theorem tw_919 : (Jvm.Cond.instanceMethod ({ cls := "DeckFrontModel", name := "isIf", desc := "()Z" } : Jvm.MethodName)) ∈ wG := wg_in (wt_4 (List.mem_of_getElem? (i := 199) rfl)) rfl
theorem tw_920 : (Jvm.Cond.code ({ cls := "DeckFrontModel", name := "isIf", desc := "()Z" } : Jvm.MethodName) prog_8_method_52_code (1 : Nat) (Option.some Jvm.ClassFile.FieldType.boolean)) ∈ wG := wg_in (wt_4 (List.mem_of_getElem? (i := 200) rfl)) rfl
theorem tw_921 : (Jvm.Cond.constantLong "DeckFrontModel" (270 : Nat) (4802088 : Int64)) ∈ wG := wg_in (wt_4 (List.mem_of_getElem? (i := 201) rfl)) rfl
theorem tw_922 : (Jvm.Cond.methodLink "DeckFrontModel" (234 : Nat) ({ cls := "DeckFrontModel", name := "word", desc := "(J)Z" } : Jvm.MethodName)) ∈ wG := wg_in (wt_4 (List.mem_of_getElem? (i := 202) rfl)) rfl
theorem tw_924 : (Jvm.Cond.instanceMethod ({ cls := "DeckFrontModel", name := "word", desc := "(J)Z" } : Jvm.MethodName)) ∈ wG := wg_in (wt_4 (List.mem_of_getElem? (i := 204) rfl)) rfl
theorem tw_925 : (Jvm.Cond.code ({ cls := "DeckFrontModel", name := "word", desc := "(J)Z" } : Jvm.MethodName) prog_8_method_18_code (5 : Nat) (Option.some Jvm.ClassFile.FieldType.boolean)) ∈ wG := wg_in (wt_4 (List.mem_of_getElem? (i := 205) rfl)) rfl
theorem tw_926 : (Jvm.Cond.methodLink "DeckFrontModel" (129 : Nat) ({ cls := "DeckFrontModel", name := "at", desc := "(I)I" } : Jvm.MethodName)) ∈ wG := wg_in (wt_4 (List.mem_of_getElem? (i := 206) rfl)) rfl
theorem tw_928 : (Jvm.Cond.instanceMethod ({ cls := "DeckFrontModel", name := "at", desc := "(I)I" } : Jvm.MethodName)) ∈ wG := wg_in (wt_4 (List.mem_of_getElem? (i := 208) rfl)) rfl
theorem tw_929 : (Jvm.Cond.code ({ cls := "DeckFrontModel", name := "at", desc := "(I)I" } : Jvm.MethodName) prog_8_method_15_code (2 : Nat) (Option.some Jvm.ClassFile.FieldType.int)) ∈ wG := wg_in (wt_4 (List.mem_of_getElem? (i := 209) rfl)) rfl
theorem tw_930 : (Jvm.Cond.constantLong "DeckFrontModel" (132 : Nat) (255 : Int64)) ∈ wG := wg_in (wt_4 (List.mem_of_getElem? (i := 210) rfl)) rfl
theorem tw_931 : (Jvm.Cond.methodLink "DeckFrontModel" (134 : Nat) ({ cls := "DeckFrontModel", name := "putPart", desc := "(II)V" } : Jvm.MethodName)) ∈ wG := wg_in (wt_4 (List.mem_of_getElem? (i := 211) rfl)) rfl
theorem tw_933 : (Jvm.Cond.instanceMethod ({ cls := "DeckFrontModel", name := "putPart", desc := "(II)V" } : Jvm.MethodName)) ∈ wG := wg_in (wt_4 (List.mem_of_getElem? (i := 213) rfl)) rfl
theorem tw_934 : (Jvm.Cond.code ({ cls := "DeckFrontModel", name := "putPart", desc := "(II)V" } : Jvm.MethodName) prog_8_method_17_code (4 : Nat) (Option.none : Option Jvm.ClassFile.FieldType)) ∈ wG := wg_in (wt_4 (List.mem_of_getElem? (i := 214) rfl)) rfl
theorem tw_935 : (Jvm.Cond.methodLink "DeckFrontModel" (122 : Nat) ({ cls := "DeckFrontModel", name := "put", desc := "(I)V" } : Jvm.MethodName)) ∈ wG := wg_in (wt_4 (List.mem_of_getElem? (i := 215) rfl)) rfl
theorem tw_937 : (Jvm.Cond.instanceMethod ({ cls := "DeckFrontModel", name := "put", desc := "(I)V" } : Jvm.MethodName)) ∈ wG := wg_in (wt_4 (List.mem_of_getElem? (i := 217) rfl)) rfl
theorem tw_938 : (Jvm.Cond.code ({ cls := "DeckFrontModel", name := "put", desc := "(I)V" } : Jvm.MethodName) prog_8_method_16_code (2 : Nat) (Option.none : Option Jvm.ClassFile.FieldType)) ∈ wG := wg_in (wt_4 (List.mem_of_getElem? (i := 218) rfl)) rfl
theorem tw_939 : (Jvm.Cond.methodLink "DeckFrontModel" (219 : Nat) ({ cls := "DeckFrontModel", name := "expression", desc := "(I)Z" } : Jvm.MethodName)) ∈ wG := wg_in (wt_4 (List.mem_of_getElem? (i := 219) rfl)) rfl
theorem tw_941 : (Jvm.Cond.instanceMethod ({ cls := "DeckFrontModel", name := "expression", desc := "(I)Z" } : Jvm.MethodName)) ∈ wG := wg_in (wt_4 (List.mem_of_getElem? (i := 221) rfl)) rfl
theorem tw_942 : (Jvm.Cond.code ({ cls := "DeckFrontModel", name := "expression", desc := "(I)Z" } : Jvm.MethodName) prog_8_method_36_code (9 : Nat) (Option.some Jvm.ClassFile.FieldType.boolean)) ∈ wG := wg_in (wt_4 (List.mem_of_getElem? (i := 222) rfl)) rfl
theorem tw_943 : (Jvm.Cond.methodLink "DeckFrontModel" (199 : Nat) ({ cls := "DeckFrontModel", name := "wanted", desc := "(II)I" } : Jvm.MethodName)) ∈ wG := wg_in (wt_4 (List.mem_of_getElem? (i := 223) rfl)) rfl
theorem tw_945 : (Jvm.Cond.instanceMethod ({ cls := "DeckFrontModel", name := "wanted", desc := "(II)I" } : Jvm.MethodName)) ∈ wG := wg_in (wt_4 (List.mem_of_getElem? (i := 225) rfl)) rfl
theorem tw_946 : (Jvm.Cond.code ({ cls := "DeckFrontModel", name := "wanted", desc := "(II)I" } : Jvm.MethodName) prog_8_method_33_code (9 : Nat) (Option.some Jvm.ClassFile.FieldType.int)) ∈ wG := wg_in (wt_4 (List.mem_of_getElem? (i := 226) rfl)) rfl
theorem tw_947 : (Jvm.Cond.methodLink "DeckFrontModel" (189 : Nat) ({ cls := "DeckFrontModel", name := "numberEnd", desc := "(I)I" } : Jvm.MethodName)) ∈ wG := wg_in (wt_4 (List.mem_of_getElem? (i := 227) rfl)) rfl
theorem tw_949 : (Jvm.Cond.instanceMethod ({ cls := "DeckFrontModel", name := "numberEnd", desc := "(I)I" } : Jvm.MethodName)) ∈ wG := wg_in (wt_4 (List.mem_of_getElem? (i := 229) rfl)) rfl
theorem tw_950 : (Jvm.Cond.code ({ cls := "DeckFrontModel", name := "numberEnd", desc := "(I)I" } : Jvm.MethodName) prog_8_method_27_code (6 : Nat) (Option.some Jvm.ClassFile.FieldType.int)) ∈ wG := wg_in (wt_4 (List.mem_of_getElem? (i := 230) rfl)) rfl
theorem tw_951 : (Jvm.Cond.methodLink "DeckFrontModel" (170 : Nat) ({ cls := "DeckFrontModel", name := "dots", desc := "(I)I" } : Jvm.MethodName)) ∈ wG := wg_in (wt_4 (List.mem_of_getElem? (i := 231) rfl)) rfl
theorem tw_953 : (Jvm.Cond.instanceMethod ({ cls := "DeckFrontModel", name := "dots", desc := "(I)I" } : Jvm.MethodName)) ∈ wG := wg_in (wt_4 (List.mem_of_getElem? (i := 233) rfl)) rfl
theorem tw_954 : (Jvm.Cond.code ({ cls := "DeckFrontModel", name := "dots", desc := "(I)I" } : Jvm.MethodName) prog_8_method_25_code (6 : Nat) (Option.some Jvm.ClassFile.FieldType.int)) ∈ wG := wg_in (wt_4 (List.mem_of_getElem? (i := 234) rfl)) rfl
theorem tw_955 : (Jvm.Cond.constantLong "DeckFrontModel" (148 : Nat) (20306 : Int64)) ∈ wG := wg_in (wt_4 (List.mem_of_getElem? (i := 235) rfl)) rfl
theorem tw_956 : (Jvm.Cond.constantLong "DeckFrontModel" (150 : Nat) (4279876 : Int64)) ∈ wG := wg_in (wt_4 (List.mem_of_getElem? (i := 236) rfl)) rfl
theorem tw_957 : (Jvm.Cond.constantLong "DeckFrontModel" (152 : Nat) (5132116 : Int64)) ∈ wG := wg_in (wt_4 (List.mem_of_getElem? (i := 237) rfl)) rfl
theorem tw_958 : (Jvm.Cond.constantLong "DeckFrontModel" (154 : Nat) (1414681925 : Int64)) ∈ wG := wg_in (wt_4 (List.mem_of_getElem? (i := 238) rfl)) rfl
theorem tw_959 : (Jvm.Cond.constantLong "DeckFrontModel" (156 : Nat) (301743231813 : Int64)) ∈ wG := wg_in (wt_4 (List.mem_of_getElem? (i := 239) rfl)) rfl
theorem tw_960 : (Jvm.Cond.constantLong "DeckFrontModel" (158 : Nat) (19540 : Int64)) ∈ wG := wg_in (wt_5 (List.mem_of_getElem? (i := 0) rfl)) rfl
theorem tw_961 : (Jvm.Cond.constantLong "DeckFrontModel" (160 : Nat) (19525 : Int64)) ∈ wG := wg_in (wt_5 (List.mem_of_getElem? (i := 1) rfl)) rfl
theorem tw_962 : (Jvm.Cond.constantLong "DeckFrontModel" (162 : Nat) (17745 : Int64)) ∈ wG := wg_in (wt_5 (List.mem_of_getElem? (i := 2) rfl)) rfl
theorem tw_963 : (Jvm.Cond.constantLong "DeckFrontModel" (164 : Nat) (20037 : Int64)) ∈ wG := wg_in (wt_5 (List.mem_of_getElem? (i := 3) rfl)) rfl
theorem tw_964 : (Jvm.Cond.constantLong "DeckFrontModel" (166 : Nat) (18260 : Int64)) ∈ wG := wg_in (wt_5 (List.mem_of_getElem? (i := 4) rfl)) rfl
theorem tw_965 : (Jvm.Cond.constantLong "DeckFrontModel" (168 : Nat) (18245 : Int64)) ∈ wG := wg_in (wt_5 (List.mem_of_getElem? (i := 5) rfl)) rfl
theorem tw_966 : (Jvm.Cond.methodLink "DeckFrontModel" (141 : Nat) ({ cls := "DeckFrontModel", name := "nameEnd", desc := "(I)I" } : Jvm.MethodName)) ∈ wG := wg_in (wt_5 (List.mem_of_getElem? (i := 6) rfl)) rfl
theorem tw_968 : (Jvm.Cond.instanceMethod ({ cls := "DeckFrontModel", name := "nameEnd", desc := "(I)I" } : Jvm.MethodName)) ∈ wG := wg_in (wt_5 (List.mem_of_getElem? (i := 8) rfl)) rfl
theorem tw_969 : (Jvm.Cond.code ({ cls := "DeckFrontModel", name := "nameEnd", desc := "(I)I" } : Jvm.MethodName) prog_8_method_22_code (3 : Nat) (Option.some Jvm.ClassFile.FieldType.int)) ∈ wG := wg_in (wt_5 (List.mem_of_getElem? (i := 9) rfl)) rfl
theorem tw_970 : (Jvm.Cond.methodLink "DeckFrontModel" (182 : Nat) ({ cls := "DeckFrontModel", name := "part", desc := "(IIIII)I" } : Jvm.MethodName)) ∈ wG := wg_in (wt_5 (List.mem_of_getElem? (i := 10) rfl)) rfl
theorem tw_972 : (Jvm.Cond.instanceMethod ({ cls := "DeckFrontModel", name := "part", desc := "(IIIII)I" } : Jvm.MethodName)) ∈ wG := wg_in (wt_5 (List.mem_of_getElem? (i := 12) rfl)) rfl
theorem tw_973 : (Jvm.Cond.code ({ cls := "DeckFrontModel", name := "part", desc := "(IIIII)I" } : Jvm.MethodName) prog_8_method_28_code (6 : Nat) (Option.some Jvm.ClassFile.FieldType.int)) ∈ wG := wg_in (wt_5 (List.mem_of_getElem? (i := 13) rfl)) rfl
theorem tw_974 : (Jvm.Cond.methodLink "DeckFrontModel" (186 : Nat) ({ cls := "DeckFrontModel", name := "value", desc := "(I)V" } : Jvm.MethodName)) ∈ wG := wg_in (wt_5 (List.mem_of_getElem? (i := 14) rfl)) rfl
theorem tw_976 : (Jvm.Cond.instanceMethod ({ cls := "DeckFrontModel", name := "value", desc := "(I)V" } : Jvm.MethodName)) ∈ wG := wg_in (wt_5 (List.mem_of_getElem? (i := 16) rfl)) rfl
theorem tw_977 : (Jvm.Cond.code ({ cls := "DeckFrontModel", name := "value", desc := "(I)V" } : Jvm.MethodName) prog_8_method_29_code (2 : Nat) (Option.none : Option Jvm.ClassFile.FieldType)) ∈ wG := wg_in (wt_5 (List.mem_of_getElem? (i := 17) rfl)) rfl
theorem tw_978 : (Jvm.Cond.methodLink "DeckFrontModel" (144 : Nat) ({ cls := "DeckFrontModel", name := "use", desc := "(IIII)V" } : Jvm.MethodName)) ∈ wG := wg_in (wt_5 (List.mem_of_getElem? (i := 18) rfl)) rfl
theorem tw_980 : (Jvm.Cond.instanceMethod ({ cls := "DeckFrontModel", name := "use", desc := "(IIII)V" } : Jvm.MethodName)) ∈ wG := wg_in (wt_5 (List.mem_of_getElem? (i := 20) rfl)) rfl
theorem tw_981 : (Jvm.Cond.code ({ cls := "DeckFrontModel", name := "use", desc := "(IIII)V" } : Jvm.MethodName) prog_8_method_23_code (8 : Nat) (Option.none : Option Jvm.ClassFile.FieldType)) ∈ wG := wg_in (wt_5 (List.mem_of_getElem? (i := 21) rfl)) rfl
theorem tw_982 : (Jvm.Cond.methodLink "DeckFrontModel" (192 : Nat) ({ cls := "DeckFrontModel", name := "push", desc := "(IIIZ)V" } : Jvm.MethodName)) ∈ wG := wg_in (wt_5 (List.mem_of_getElem? (i := 22) rfl)) rfl
theorem tw_984 : (Jvm.Cond.instanceMethod ({ cls := "DeckFrontModel", name := "push", desc := "(IIIZ)V" } : Jvm.MethodName)) ∈ wG := wg_in (wt_5 (List.mem_of_getElem? (i := 24) rfl)) rfl
theorem tw_985 : (Jvm.Cond.code ({ cls := "DeckFrontModel", name := "push", desc := "(IIIZ)V" } : Jvm.MethodName) prog_8_method_30_code (5 : Nat) (Option.none : Option Jvm.ClassFile.FieldType)) ∈ wG := wg_in (wt_5 (List.mem_of_getElem? (i := 25) rfl)) rfl
theorem tw_986 : (Jvm.Cond.methodLink "DeckFrontModel" (196 : Nat) ({ cls := "DeckFrontModel", name := "dotted", desc := "(I)I" } : Jvm.MethodName)) ∈ wG := wg_in (wt_5 (List.mem_of_getElem? (i := 26) rfl)) rfl
theorem tw_988 : (Jvm.Cond.instanceMethod ({ cls := "DeckFrontModel", name := "dotted", desc := "(I)I" } : Jvm.MethodName)) ∈ wG := wg_in (wt_5 (List.mem_of_getElem? (i := 28) rfl)) rfl
theorem tw_989 : (Jvm.Cond.code ({ cls := "DeckFrontModel", name := "dotted", desc := "(I)I" } : Jvm.MethodName) prog_8_method_26_code (3 : Nat) (Option.some Jvm.ClassFile.FieldType.int)) ∈ wG := wg_in (wt_5 (List.mem_of_getElem? (i := 29) rfl)) rfl
theorem tw_990 : (Jvm.Cond.methodLink "DeckFrontModel" (203 : Nat) ({ cls := "DeckFrontModel", name := "between", desc := "()I" } : Jvm.MethodName)) ∈ wG := wg_in (wt_5 (List.mem_of_getElem? (i := 30) rfl)) rfl
theorem tw_992 : (Jvm.Cond.instanceMethod ({ cls := "DeckFrontModel", name := "between", desc := "()I" } : Jvm.MethodName)) ∈ wG := wg_in (wt_5 (List.mem_of_getElem? (i := 32) rfl)) rfl
theorem tw_993 : (Jvm.Cond.code ({ cls := "DeckFrontModel", name := "between", desc := "()I" } : Jvm.MethodName) prog_8_method_34_code (3 : Nat) (Option.some Jvm.ClassFile.FieldType.int)) ∈ wG := wg_in (wt_5 (List.mem_of_getElem? (i := 33) rfl)) rfl
theorem tw_994 : (Jvm.Cond.methodLink "DeckFrontModel" (207 : Nat) ({ cls := "DeckFrontModel", name := "related", desc := "()Z" } : Jvm.MethodName)) ∈ wG := wg_in (wt_5 (List.mem_of_getElem? (i := 34) rfl)) rfl
theorem tw_996 : (Jvm.Cond.instanceMethod ({ cls := "DeckFrontModel", name := "related", desc := "()Z" } : Jvm.MethodName)) ∈ wG := wg_in (wt_5 (List.mem_of_getElem? (i := 36) rfl)) rfl
theorem tw_997 : (Jvm.Cond.code ({ cls := "DeckFrontModel", name := "related", desc := "()Z" } : Jvm.MethodName) prog_8_method_35_code (2 : Nat) (Option.some Jvm.ClassFile.FieldType.boolean)) ∈ wG := wg_in (wt_5 (List.mem_of_getElem? (i := 37) rfl)) rfl
theorem tw_998 : (Jvm.Cond.methodLink "DeckFrontModel" (210 : Nat) ({ cls := "DeckFrontModel", name := "reduce", desc := "(I)V" } : Jvm.MethodName)) ∈ wG := wg_in (wt_5 (List.mem_of_getElem? (i := 38) rfl)) rfl
theorem tw_1000 : (Jvm.Cond.instanceMethod ({ cls := "DeckFrontModel", name := "reduce", desc := "(I)V" } : Jvm.MethodName)) ∈ wG := wg_in (wt_5 (List.mem_of_getElem? (i := 40) rfl)) rfl
theorem tw_1001 : (Jvm.Cond.code ({ cls := "DeckFrontModel", name := "reduce", desc := "(I)V" } : Jvm.MethodName) prog_8_method_31_code (3 : Nat) (Option.none : Option Jvm.ClassFile.FieldType)) ∈ wG := wg_in (wt_5 (List.mem_of_getElem? (i := 41) rfl)) rfl
theorem tw_1002 : (Jvm.Cond.methodLink "DeckFrontModel" (213 : Nat) ({ cls := "DeckFrontModel", name := "print", desc := "(I)V" } : Jvm.MethodName)) ∈ wG := wg_in (wt_5 (List.mem_of_getElem? (i := 42) rfl)) rfl
theorem tw_1004 : (Jvm.Cond.instanceMethod ({ cls := "DeckFrontModel", name := "print", desc := "(I)V" } : Jvm.MethodName)) ∈ wG := wg_in (wt_5 (List.mem_of_getElem? (i := 44) rfl)) rfl
theorem tw_1005 : (Jvm.Cond.code ({ cls := "DeckFrontModel", name := "print", desc := "(I)V" } : Jvm.MethodName) prog_8_method_37_code (5 : Nat) (Option.none : Option Jvm.ClassFile.FieldType)) ∈ wG := wg_in (wt_5 (List.mem_of_getElem? (i := 45) rfl)) rfl
theorem tw_1006 : (Jvm.Cond.methodLink "DeckFrontModel" (216 : Nat) ({ cls := "DeckFrontModel", name := "joins", desc := "()V" } : Jvm.MethodName)) ∈ wG := wg_in (wt_5 (List.mem_of_getElem? (i := 46) rfl)) rfl
theorem tw_1008 : (Jvm.Cond.instanceMethod ({ cls := "DeckFrontModel", name := "joins", desc := "()V" } : Jvm.MethodName)) ∈ wG := wg_in (wt_5 (List.mem_of_getElem? (i := 48) rfl)) rfl
theorem tw_1009 : (Jvm.Cond.code ({ cls := "DeckFrontModel", name := "joins", desc := "()V" } : Jvm.MethodName) prog_8_method_32_code (3 : Nat) (Option.none : Option Jvm.ClassFile.FieldType)) ∈ wG := wg_in (wt_5 (List.mem_of_getElem? (i := 49) rfl)) rfl
theorem tw_1010 : (Jvm.Cond.methodLink "DeckFrontModel" (226 : Nat) ({ cls := "DeckFrontModel", name := "sign", desc := "(I)Z" } : Jvm.MethodName)) ∈ wG := wg_in (wt_5 (List.mem_of_getElem? (i := 50) rfl)) rfl
theorem tw_1012 : (Jvm.Cond.instanceMethod ({ cls := "DeckFrontModel", name := "sign", desc := "(I)Z" } : Jvm.MethodName)) ∈ wG := wg_in (wt_5 (List.mem_of_getElem? (i := 52) rfl)) rfl
theorem tw_1013 : (Jvm.Cond.code ({ cls := "DeckFrontModel", name := "sign", desc := "(I)Z" } : Jvm.MethodName) prog_8_method_19_code (2 : Nat) (Option.some Jvm.ClassFile.FieldType.boolean)) ∈ wG := wg_in (wt_5 (List.mem_of_getElem? (i := 53) rfl)) rfl
theorem tw_1014 : (Jvm.Cond.methodLink "DeckFrontModel" (316 : Nat) ({ cls := "DeckFrontModel", name := "behind", desc := "()I" } : Jvm.MethodName)) ∈ wG := wg_in (wt_5 (List.mem_of_getElem? (i := 54) rfl)) rfl
theorem tw_1016 : (Jvm.Cond.instanceMethod ({ cls := "DeckFrontModel", name := "behind", desc := "()I" } : Jvm.MethodName)) ∈ wG := wg_in (wt_5 (List.mem_of_getElem? (i := 56) rfl)) rfl
theorem tw_1017 : (Jvm.Cond.code ({ cls := "DeckFrontModel", name := "behind", desc := "()I" } : Jvm.MethodName) prog_8_method_51_code (5 : Nat) (Option.some Jvm.ClassFile.FieldType.int)) ∈ wG := wg_in (wt_5 (List.mem_of_getElem? (i := 57) rfl)) rfl
theorem tw_1018 : (Jvm.Cond.methodLink "DeckFrontModel" (310 : Nat) ({ cls := "DeckFrontModel", name := "simple", desc := "(I)Z" } : Jvm.MethodName)) ∈ wG := wg_in (wt_5 (List.mem_of_getElem? (i := 58) rfl)) rfl
theorem tw_1020 : (Jvm.Cond.instanceMethod ({ cls := "DeckFrontModel", name := "simple", desc := "(I)Z" } : Jvm.MethodName)) ∈ wG := wg_in (wt_5 (List.mem_of_getElem? (i := 60) rfl)) rfl
theorem tw_1021 : (Jvm.Cond.code ({ cls := "DeckFrontModel", name := "simple", desc := "(I)Z" } : Jvm.MethodName) prog_8_method_49_code (2 : Nat) (Option.some Jvm.ClassFile.FieldType.boolean)) ∈ wG := wg_in (wt_5 (List.mem_of_getElem? (i := 61) rfl)) rfl
theorem tw_1022 : (Jvm.Cond.methodLink "DeckFrontModel" (264 : Nat) ({ cls := "DeckFrontModel", name := "isDo", desc := "()Z" } : Jvm.MethodName)) ∈ wG := wg_in (wt_5 (List.mem_of_getElem? (i := 62) rfl)) rfl
theorem tw_1024 : (Jvm.Cond.instanceMethod ({ cls := "DeckFrontModel", name := "isDo", desc := "()Z" } : Jvm.MethodName)) ∈ wG := wg_in (wt_5 (List.mem_of_getElem? (i := 64) rfl)) rfl
theorem tw_1025 : (Jvm.Cond.code ({ cls := "DeckFrontModel", name := "isDo", desc := "()Z" } : Jvm.MethodName) prog_8_method_40_code (2 : Nat) (Option.some Jvm.ClassFile.FieldType.boolean)) ∈ wG := wg_in (wt_5 (List.mem_of_getElem? (i := 65) rfl)) rfl
theorem tw_1026 : (Jvm.Cond.constantLong "DeckFrontModel" (232 : Nat) (17487 : Int64)) ∈ wG := wg_in (wt_5 (List.mem_of_getElem? (i := 66) rfl)) rfl
theorem tw_1027 : (Jvm.Cond.methodLink "DeckFrontModel" (238 : Nat) ({ cls := "DeckFrontModel", name := "digits", desc := "(I)I" } : Jvm.MethodName)) ∈ wG := wg_in (wt_5 (List.mem_of_getElem? (i := 67) rfl)) rfl
theorem tw_1029 : (Jvm.Cond.instanceMethod ({ cls := "DeckFrontModel", name := "digits", desc := "(I)I" } : Jvm.MethodName)) ∈ wG := wg_in (wt_5 (List.mem_of_getElem? (i := 69) rfl)) rfl
theorem tw_1030 : (Jvm.Cond.code ({ cls := "DeckFrontModel", name := "digits", desc := "(I)I" } : Jvm.MethodName) prog_8_method_21_code (5 : Nat) (Option.some Jvm.ClassFile.FieldType.int)) ∈ wG := wg_in (wt_5 (List.mem_of_getElem? (i := 70) rfl)) rfl
theorem tw_1031 : (Jvm.Cond.methodLink "DeckFrontModel" (241 : Nat) ({ cls := "DeckFrontModel", name := "comma", desc := "()V" } : Jvm.MethodName)) ∈ wG := wg_in (wt_5 (List.mem_of_getElem? (i := 71) rfl)) rfl
theorem tw_1033 : (Jvm.Cond.instanceMethod ({ cls := "DeckFrontModel", name := "comma", desc := "()V" } : Jvm.MethodName)) ∈ wG := wg_in (wt_5 (List.mem_of_getElem? (i := 73) rfl)) rfl
theorem tw_1034 : (Jvm.Cond.code ({ cls := "DeckFrontModel", name := "comma", desc := "()V" } : Jvm.MethodName) prog_8_method_20_code (1 : Nat) (Option.none : Option Jvm.ClassFile.FieldType)) ∈ wG := wg_in (wt_5 (List.mem_of_getElem? (i := 74) rfl)) rfl
theorem tw_1035 : (Jvm.Cond.methodLink "DeckFrontModel" (222 : Nat) ({ cls := "DeckFrontModel", name := "name", desc := "(II)Z" } : Jvm.MethodName)) ∈ wG := wg_in (wt_5 (List.mem_of_getElem? (i := 75) rfl)) rfl
theorem tw_1037 : (Jvm.Cond.instanceMethod ({ cls := "DeckFrontModel", name := "name", desc := "(II)Z" } : Jvm.MethodName)) ∈ wG := wg_in (wt_5 (List.mem_of_getElem? (i := 77) rfl)) rfl
theorem tw_1038 : (Jvm.Cond.code ({ cls := "DeckFrontModel", name := "name", desc := "(II)Z" } : Jvm.MethodName) prog_8_method_24_code (4 : Nat) (Option.some Jvm.ClassFile.FieldType.boolean)) ∈ wG := wg_in (wt_5 (List.mem_of_getElem? (i := 78) rfl)) rfl
theorem tw_1039 : (Jvm.Cond.methodLink "DeckFrontModel" (267 : Nat) ({ cls := "DeckFrontModel", name := "isAssignment", desc := "()Z" } : Jvm.MethodName)) ∈ wG := wg_in (wt_5 (List.mem_of_getElem? (i := 79) rfl)) rfl
theorem tw_1041 : (Jvm.Cond.instanceMethod ({ cls := "DeckFrontModel", name := "isAssignment", desc := "()Z" } : Jvm.MethodName)) ∈ wG := wg_in (wt_5 (List.mem_of_getElem? (i := 81) rfl)) rfl
theorem tw_1042 : (Jvm.Cond.code ({ cls := "DeckFrontModel", name := "isAssignment", desc := "()Z" } : Jvm.MethodName) prog_8_method_41_code (1 : Nat) (Option.some Jvm.ClassFile.FieldType.boolean)) ∈ wG := wg_in (wt_5 (List.mem_of_getElem? (i := 82) rfl)) rfl
theorem tw_1043 : (Jvm.Cond.methodLink "DeckFrontModel" (247 : Nat) ({ cls := "DeckFrontModel", name := "nameWithList", desc := "(II)Z" } : Jvm.MethodName)) ∈ wG := wg_in (wt_5 (List.mem_of_getElem? (i := 83) rfl)) rfl
theorem tw_1045 : (Jvm.Cond.instanceMethod ({ cls := "DeckFrontModel", name := "nameWithList", desc := "(II)Z" } : Jvm.MethodName)) ∈ wG := wg_in (wt_5 (List.mem_of_getElem? (i := 85) rfl)) rfl
theorem tw_1046 : (Jvm.Cond.code ({ cls := "DeckFrontModel", name := "nameWithList", desc := "(II)Z" } : Jvm.MethodName) prog_8_method_39_code (5 : Nat) (Option.some Jvm.ClassFile.FieldType.boolean)) ∈ wG := wg_in (wt_5 (List.mem_of_getElem? (i := 86) rfl)) rfl
theorem tw_1047 : (Jvm.Cond.methodLink "DeckFrontModel" (229 : Nat) ({ cls := "DeckFrontModel", name := "expressions", desc := "(I)Z" } : Jvm.MethodName)) ∈ wG := wg_in (wt_5 (List.mem_of_getElem? (i := 87) rfl)) rfl
theorem tw_1049 : (Jvm.Cond.instanceMethod ({ cls := "DeckFrontModel", name := "expressions", desc := "(I)Z" } : Jvm.MethodName)) ∈ wG := wg_in (wt_5 (List.mem_of_getElem? (i := 89) rfl)) rfl
theorem tw_1050 : (Jvm.Cond.code ({ cls := "DeckFrontModel", name := "expressions", desc := "(I)Z" } : Jvm.MethodName) prog_8_method_38_code (3 : Nat) (Option.some Jvm.ClassFile.FieldType.boolean)) ∈ wG := wg_in (wt_5 (List.mem_of_getElem? (i := 90) rfl)) rfl
theorem tw_1051 : (Jvm.Cond.methodLink "DeckFrontModel" (272 : Nat) ({ cls := "DeckFrontModel", name := "isThen", desc := "(J)Z" } : Jvm.MethodName)) ∈ wG := wg_in (wt_5 (List.mem_of_getElem? (i := 91) rfl)) rfl
theorem tw_1053 : (Jvm.Cond.instanceMethod ({ cls := "DeckFrontModel", name := "isThen", desc := "(J)Z" } : Jvm.MethodName)) ∈ wG := wg_in (wt_5 (List.mem_of_getElem? (i := 93) rfl)) rfl
theorem tw_1054 : (Jvm.Cond.code ({ cls := "DeckFrontModel", name := "isThen", desc := "(J)Z" } : Jvm.MethodName) prog_8_method_48_code (3 : Nat) (Option.some Jvm.ClassFile.FieldType.boolean)) ∈ wG := wg_in (wt_5 (List.mem_of_getElem? (i := 94) rfl)) rfl
theorem tw_1055 : (Jvm.Cond.constantLong "DeckFrontModel" (262 : Nat) (177507681614 : Int64)) ∈ wG := wg_in (wt_5 (List.mem_of_getElem? (i := 95) rfl)) rfl
theorem tw_1056 : (Jvm.Cond.constantLong "DeckFrontModel" (275 : Nat) (19505693921461800 : Int64)) ∈ wG := wg_in (wt_5 (List.mem_of_getElem? (i := 96) rfl)) rfl
theorem tw_1057 : (Jvm.Cond.constantLong "DeckFrontModel" (277 : Nat) (1162629957 : Int64)) ∈ wG := wg_in (wt_5 (List.mem_of_getElem? (i := 97) rfl)) rfl
theorem tw_1058 : (Jvm.Cond.methodLink "DeckFrontModel" (279 : Nat) ({ cls := "DeckFrontModel", name := "alone", desc := "(JI)Z" } : Jvm.MethodName)) ∈ wG := wg_in (wt_5 (List.mem_of_getElem? (i := 98) rfl)) rfl
theorem tw_1060 : (Jvm.Cond.instanceMethod ({ cls := "DeckFrontModel", name := "alone", desc := "(JI)Z" } : Jvm.MethodName)) ∈ wG := wg_in (wt_5 (List.mem_of_getElem? (i := 100) rfl)) rfl
theorem tw_1061 : (Jvm.Cond.code ({ cls := "DeckFrontModel", name := "alone", desc := "(JI)Z" } : Jvm.MethodName) prog_8_method_47_code (4 : Nat) (Option.some Jvm.ClassFile.FieldType.boolean)) ∈ wG := wg_in (wt_5 (List.mem_of_getElem? (i := 101) rfl)) rfl
theorem tw_1062 : (Jvm.Cond.constantLong "DeckFrontModel" (283 : Nat) (297665841478 : Int64)) ∈ wG := wg_in (wt_5 (List.mem_of_getElem? (i := 102) rfl)) rfl
theorem tw_1063 : (Jvm.Cond.constantLong "DeckFrontModel" (285 : Nat) (4850181447615403333 : Int64)) ∈ wG := wg_in (wt_5 (List.mem_of_getElem? (i := 103) rfl)) rfl
theorem tw_1064 : (Jvm.Cond.methodLink "DeckFrontModel" (287 : Nat) ({ cls := "DeckFrontModel", name := "isGoTo", desc := "()Z" } : Jvm.MethodName)) ∈ wG := wg_in (wt_5 (List.mem_of_getElem? (i := 104) rfl)) rfl
theorem tw_1066 : (Jvm.Cond.instanceMethod ({ cls := "DeckFrontModel", name := "isGoTo", desc := "()Z" } : Jvm.MethodName)) ∈ wG := wg_in (wt_5 (List.mem_of_getElem? (i := 106) rfl)) rfl
theorem tw_1067 : (Jvm.Cond.code ({ cls := "DeckFrontModel", name := "isGoTo", desc := "()Z" } : Jvm.MethodName) prog_8_method_42_code (1 : Nat) (Option.some Jvm.ClassFile.FieldType.boolean)) ∈ wG := wg_in (wt_5 (List.mem_of_getElem? (i := 107) rfl)) rfl
theorem tw_1068 : (Jvm.Cond.constantLong "DeckFrontModel" (250 : Nat) (1196381263 : Int64)) ∈ wG := wg_in (wt_5 (List.mem_of_getElem? (i := 108) rfl)) rfl
theorem tw_1069 : (Jvm.Cond.methodLink "DeckFrontModel" (290 : Nat) ({ cls := "DeckFrontModel", name := "isCall", desc := "()Z" } : Jvm.MethodName)) ∈ wG := wg_in (wt_5 (List.mem_of_getElem? (i := 109) rfl)) rfl
theorem tw_1071 : (Jvm.Cond.instanceMethod ({ cls := "DeckFrontModel", name := "isCall", desc := "()Z" } : Jvm.MethodName)) ∈ wG := wg_in (wt_5 (List.mem_of_getElem? (i := 111) rfl)) rfl
theorem tw_1072 : (Jvm.Cond.code ({ cls := "DeckFrontModel", name := "isCall", desc := "()Z" } : Jvm.MethodName) prog_8_method_44_code (1 : Nat) (Option.some Jvm.ClassFile.FieldType.boolean)) ∈ wG := wg_in (wt_5 (List.mem_of_getElem? (i := 112) rfl)) rfl
theorem tw_1073 : (Jvm.Cond.constantLong "DeckFrontModel" (252 : Nat) (1128352844 : Int64)) ∈ wG := wg_in (wt_5 (List.mem_of_getElem? (i := 113) rfl)) rfl
theorem tw_1074 : (Jvm.Cond.constantLong "DeckFrontModel" (293 : Nat) (90457721098830 : Int64)) ∈ wG := wg_in (wt_5 (List.mem_of_getElem? (i := 114) rfl)) rfl
theorem tw_1075 : (Jvm.Cond.constantLong "DeckFrontModel" (295 : Nat) (1398034256 : Int64)) ∈ wG := wg_in (wt_5 (List.mem_of_getElem? (i := 115) rfl)) rfl
theorem tw_1076 : (Jvm.Cond.constantLong "DeckFrontModel" (297 : Nat) (22608472937081388 : Int64)) ∈ wG := wg_in (wt_5 (List.mem_of_getElem? (i := 116) rfl)) rfl
theorem tw_1077 : (Jvm.Cond.constantLong "DeckFrontModel" (299 : Nat) (4542020 : Int64)) ∈ wG := wg_in (wt_5 (List.mem_of_getElem? (i := 117) rfl)) rfl
theorem tw_1078 : (Jvm.Cond.methodLink "DeckFrontModel" (301 : Nat) ({ cls := "DeckFrontModel", name := "isType", desc := "()Z" } : Jvm.MethodName)) ∈ wG := wg_in (wt_5 (List.mem_of_getElem? (i := 118) rfl)) rfl
theorem tw_1080 : (Jvm.Cond.instanceMethod ({ cls := "DeckFrontModel", name := "isType", desc := "()Z" } : Jvm.MethodName)) ∈ wG := wg_in (wt_5 (List.mem_of_getElem? (i := 120) rfl)) rfl
theorem tw_1081 : (Jvm.Cond.code ({ cls := "DeckFrontModel", name := "isType", desc := "()Z" } : Jvm.MethodName) prog_8_method_45_code (3 : Nat) (Option.some Jvm.ClassFile.FieldType.boolean)) ∈ wG := wg_in (wt_5 (List.mem_of_getElem? (i := 121) rfl)) rfl
theorem tw_1082 : (Jvm.Cond.constantLong "DeckFrontModel" (254 : Nat) (20633797146395986 : Int64)) ∈ wG := wg_in (wt_5 (List.mem_of_getElem? (i := 122) rfl)) rfl
theorem tw_1083 : (Jvm.Cond.constantLong "DeckFrontModel" (256 : Nat) (1380270412 : Int64)) ∈ wG := wg_in (wt_5 (List.mem_of_getElem? (i := 123) rfl)) rfl
theorem tw_1084 : (Jvm.Cond.constantLong "DeckFrontModel" (258 : Nat) (21479265820426572 : Int64)) ∈ wG := wg_in (wt_5 (List.mem_of_getElem? (i := 124) rfl)) rfl
theorem tw_1085 : (Jvm.Cond.methodLink "DeckFrontModel" (304 : Nat) ({ cls := "DeckFrontModel", name := "isDimension", desc := "()Z" } : Jvm.MethodName)) ∈ wG := wg_in (wt_5 (List.mem_of_getElem? (i := 125) rfl)) rfl
theorem tw_1087 : (Jvm.Cond.instanceMethod ({ cls := "DeckFrontModel", name := "isDimension", desc := "()Z" } : Jvm.MethodName)) ∈ wG := wg_in (wt_5 (List.mem_of_getElem? (i := 127) rfl)) rfl
theorem tw_1088 : (Jvm.Cond.code ({ cls := "DeckFrontModel", name := "isDimension", desc := "()Z" } : Jvm.MethodName) prog_8_method_46_code (3 : Nat) (Option.some Jvm.ClassFile.FieldType.boolean)) ∈ wG := wg_in (wt_5 (List.mem_of_getElem? (i := 128) rfl)) rfl
theorem tw_1089 : (Jvm.Cond.constantLong "DeckFrontModel" (260 : Nat) (4920549027941140815 : Int64)) ∈ wG := wg_in (wt_5 (List.mem_of_getElem? (i := 129) rfl)) rfl
theorem tw_1090 : (Jvm.Cond.methodLink "DeckFrontModel" (307 : Nat) ({ cls := "DeckFrontModel", name := "isComputed", desc := "()Z" } : Jvm.MethodName)) ∈ wG := wg_in (wt_5 (List.mem_of_getElem? (i := 130) rfl)) rfl
theorem tw_1092 : (Jvm.Cond.instanceMethod ({ cls := "DeckFrontModel", name := "isComputed", desc := "()Z" } : Jvm.MethodName)) ∈ wG := wg_in (wt_5 (List.mem_of_getElem? (i := 132) rfl)) rfl
theorem tw_1093 : (Jvm.Cond.code ({ cls := "DeckFrontModel", name := "isComputed", desc := "()Z" } : Jvm.MethodName) prog_8_method_43_code (3 : Nat) (Option.some Jvm.ClassFile.FieldType.boolean)) ∈ wG := wg_in (wt_5 (List.mem_of_getElem? (i := 133) rfl)) rfl
theorem tw_1094 : (Jvm.Cond.methodLink "DeckFrontModel" (313 : Nat) ({ cls := "DeckFrontModel", name := "mayFollow", desc := "(I)Z" } : Jvm.MethodName)) ∈ wG := wg_in (wt_5 (List.mem_of_getElem? (i := 134) rfl)) rfl
theorem tw_1095 : (Jvm.Cond.static ({ cls := "DeckFrontModel", name := "mayFollow", desc := "(I)Z" } : Jvm.MethodName)) ∈ wG := wg_in (wt_5 (List.mem_of_getElem? (i := 135) rfl)) rfl
theorem tw_1096 : (Jvm.Cond.code ({ cls := "DeckFrontModel", name := "mayFollow", desc := "(I)Z" } : Jvm.MethodName) prog_8_method_50_code (1 : Nat) (Option.some Jvm.ClassFile.FieldType.boolean)) ∈ wG := wg_in (wt_5 (List.mem_of_getElem? (i := 136) rfl)) rfl
theorem tw_1097 : (Jvm.Cond.methodLink "DeckFrontLaw" (58 : Nat) ({ cls := "DeckFrontModel", name := "shown", desc := "(II)I" } : Jvm.MethodName)) ∈ wG := wg_in (wt_5 (List.mem_of_getElem? (i := 137) rfl)) rfl
theorem tw_1098 : (Jvm.Cond.instanceMethod ({ cls := "DeckFrontModel", name := "shown", desc := "(II)I" } : Jvm.MethodName)) ∈ wG := wg_in (wt_5 (List.mem_of_getElem? (i := 138) rfl)) rfl
theorem tw_1099 : (Jvm.Cond.selects "DeckFrontModel" ({ cls := "DeckFrontModel", name := "shown", desc := "(II)I" } : Jvm.MethodName) ({ cls := "DeckFrontModel", name := "shown", desc := "(II)I" } : Jvm.MethodName)) ∈ wG := wg_in (wt_5 (List.mem_of_getElem? (i := 139) rfl)) rfl
theorem tw_1100 : (Jvm.Cond.code ({ cls := "DeckFrontModel", name := "shown", desc := "(II)I" } : Jvm.MethodName) prog_8_method_55_code (4 : Nat) (Option.some Jvm.ClassFile.FieldType.int)) ∈ wG := wg_in (wt_5 (List.mem_of_getElem? (i := 140) rfl)) rfl
theorem tw_1101 : (Jvm.Cond.methodLink "DeckFrontLaw" (63 : Nat) ({ cls := "DeckFrontModel", name := "kind", desc := "(J)I" } : Jvm.MethodName)) ∈ wG := wg_in (wt_5 (List.mem_of_getElem? (i := 141) rfl)) rfl
theorem tw_1102 : (Jvm.Cond.instanceMethod ({ cls := "DeckFrontModel", name := "kind", desc := "(J)I" } : Jvm.MethodName)) ∈ wG := wg_in (wt_5 (List.mem_of_getElem? (i := 142) rfl)) rfl
theorem tw_1103 : (Jvm.Cond.selects "DeckFrontModel" ({ cls := "DeckFrontModel", name := "kind", desc := "(J)I" } : Jvm.MethodName) ({ cls := "DeckFrontModel", name := "kind", desc := "(J)I" } : Jvm.MethodName)) ∈ wG := wg_in (wt_5 (List.mem_of_getElem? (i := 143) rfl)) rfl
theorem tw_1104 : (Jvm.Cond.code ({ cls := "DeckFrontModel", name := "kind", desc := "(J)I" } : Jvm.MethodName) prog_8_method_57_code (10 : Nat) (Option.some Jvm.ClassFile.FieldType.int)) ∈ wG := wg_in (wt_5 (List.mem_of_getElem? (i := 144) rfl)) rfl
theorem tw_1105 : (Jvm.Cond.methodLink "DeckFrontModel" (328 : Nat) ({ cls := "DeckFrontModel", name := "packed", desc := "(J)J" } : Jvm.MethodName)) ∈ wG := wg_in (wt_5 (List.mem_of_getElem? (i := 145) rfl)) rfl
theorem tw_1106 : (Jvm.Cond.static ({ cls := "DeckFrontModel", name := "packed", desc := "(J)J" } : Jvm.MethodName)) ∈ wG := wg_in (wt_5 (List.mem_of_getElem? (i := 146) rfl)) rfl
theorem tw_1107 : (Jvm.Cond.code ({ cls := "DeckFrontModel", name := "packed", desc := "(J)J" } : Jvm.MethodName) prog_8_method_56_code (7 : Nat) (Option.some Jvm.ClassFile.FieldType.long)) ∈ wG := wg_in (wt_5 (List.mem_of_getElem? (i := 147) rfl)) rfl
theorem tw_1108 : (Jvm.Cond.methodLink "DeckFrontLaw" (67 : Nat) ({ cls := "DeckFrontModel", name := "type", desc := "(J)I" } : Jvm.MethodName)) ∈ wG := wg_in (wt_5 (List.mem_of_getElem? (i := 148) rfl)) rfl
theorem tw_1109 : (Jvm.Cond.instanceMethod ({ cls := "DeckFrontModel", name := "type", desc := "(J)I" } : Jvm.MethodName)) ∈ wG := wg_in (wt_5 (List.mem_of_getElem? (i := 149) rfl)) rfl
theorem tw_1110 : (Jvm.Cond.selects "DeckFrontModel" ({ cls := "DeckFrontModel", name := "type", desc := "(J)I" } : Jvm.MethodName) ({ cls := "DeckFrontModel", name := "type", desc := "(J)I" } : Jvm.MethodName)) ∈ wG := wg_in (wt_5 (List.mem_of_getElem? (i := 150) rfl)) rfl
theorem tw_1111 : (Jvm.Cond.code ({ cls := "DeckFrontModel", name := "type", desc := "(J)I" } : Jvm.MethodName) prog_8_method_58_code (8 : Nat) (Option.some Jvm.ClassFile.FieldType.int)) ∈ wG := wg_in (wt_5 (List.mem_of_getElem? (i := 151) rfl)) rfl
theorem tw_1112 : (Jvm.Cond.constantLong "DeckFrontModel" (332 : Nat) (73 : Int64)) ∈ wG := wg_in (wt_5 (List.mem_of_getElem? (i := 152) rfl)) rfl
theorem tw_1113 : (Jvm.Cond.constantLong "DeckFrontModel" (334 : Nat) (78 : Int64)) ∈ wG := wg_in (wt_5 (List.mem_of_getElem? (i := 153) rfl)) rfl
theorem tw_1114 : (Jvm.Cond.methodLink "DeckFrontLaw" (71 : Nat) ({ cls := "DeckFrontModel", name := "fault", desc := "()I" } : Jvm.MethodName)) ∈ wG := wg_in (wt_5 (List.mem_of_getElem? (i := 154) rfl)) rfl
theorem tw_1115 : (Jvm.Cond.instanceMethod ({ cls := "DeckFrontModel", name := "fault", desc := "()I" } : Jvm.MethodName)) ∈ wG := wg_in (wt_5 (List.mem_of_getElem? (i := 155) rfl)) rfl
theorem tw_1116 : (Jvm.Cond.selects "DeckFrontModel" ({ cls := "DeckFrontModel", name := "fault", desc := "()I" } : Jvm.MethodName) ({ cls := "DeckFrontModel", name := "fault", desc := "()I" } : Jvm.MethodName)) ∈ wG := wg_in (wt_5 (List.mem_of_getElem? (i := 156) rfl)) rfl
theorem tw_1117 : (Jvm.Cond.code ({ cls := "DeckFrontModel", name := "fault", desc := "()I" } : Jvm.MethodName) prog_8_method_64_code (1 : Nat) (Option.some Jvm.ClassFile.FieldType.int)) ∈ wG := wg_in (wt_5 (List.mem_of_getElem? (i := 157) rfl)) rfl
theorem tw_1118 : (Jvm.Cond.methodLink "DeckFrontModel" (352 : Nat) ({ cls := "DeckFrontModel", name := "firstFault", desc := "()I" } : Jvm.MethodName)) ∈ wG := wg_in (wt_5 (List.mem_of_getElem? (i := 158) rfl)) rfl
theorem tw_1120 : (Jvm.Cond.instanceMethod ({ cls := "DeckFrontModel", name := "firstFault", desc := "()I" } : Jvm.MethodName)) ∈ wG := wg_in (wt_5 (List.mem_of_getElem? (i := 160) rfl)) rfl
theorem tw_1121 : (Jvm.Cond.code ({ cls := "DeckFrontModel", name := "firstFault", desc := "()I" } : Jvm.MethodName) prog_8_method_63_code (5 : Nat) (Option.some Jvm.ClassFile.FieldType.int)) ∈ wG := wg_in (wt_5 (List.mem_of_getElem? (i := 161) rfl)) rfl
theorem tw_1122 : (Jvm.Cond.methodLink "DeckFrontModel" (345 : Nat) ({ cls := "DeckFrontModel", name := "early", desc := "(IIZ)I" } : Jvm.MethodName)) ∈ wG := wg_in (wt_5 (List.mem_of_getElem? (i := 162) rfl)) rfl
theorem tw_1124 : (Jvm.Cond.instanceMethod ({ cls := "DeckFrontModel", name := "early", desc := "(IIZ)I" } : Jvm.MethodName)) ∈ wG := wg_in (wt_5 (List.mem_of_getElem? (i := 164) rfl)) rfl
theorem tw_1125 : (Jvm.Cond.code ({ cls := "DeckFrontModel", name := "early", desc := "(IIZ)I" } : Jvm.MethodName) prog_8_method_61_code (7 : Nat) (Option.some Jvm.ClassFile.FieldType.int)) ∈ wG := wg_in (wt_5 (List.mem_of_getElem? (i := 165) rfl)) rfl
theorem tw_1126 : (Jvm.Cond.methodLink "DeckFrontModel" (339 : Nat) ({ cls := "DeckFrontModel", name := "isOpen", desc := "(I)Z" } : Jvm.MethodName)) ∈ wG := wg_in (wt_5 (List.mem_of_getElem? (i := 166) rfl)) rfl
theorem tw_1128 : (Jvm.Cond.instanceMethod ({ cls := "DeckFrontModel", name := "isOpen", desc := "(I)Z" } : Jvm.MethodName)) ∈ wG := wg_in (wt_5 (List.mem_of_getElem? (i := 168) rfl)) rfl
theorem tw_1129 : (Jvm.Cond.code ({ cls := "DeckFrontModel", name := "isOpen", desc := "(I)Z" } : Jvm.MethodName) prog_8_method_60_code (4 : Nat) (Option.some Jvm.ClassFile.FieldType.boolean)) ∈ wG := wg_in (wt_5 (List.mem_of_getElem? (i := 169) rfl)) rfl
theorem tw_1130 : (Jvm.Cond.methodLink "DeckFrontModel" (349 : Nat) ({ cls := "DeckFrontModel", name := "later", desc := "(II)I" } : Jvm.MethodName)) ∈ wG := wg_in (wt_5 (List.mem_of_getElem? (i := 170) rfl)) rfl
theorem tw_1132 : (Jvm.Cond.instanceMethod ({ cls := "DeckFrontModel", name := "later", desc := "(II)I" } : Jvm.MethodName)) ∈ wG := wg_in (wt_5 (List.mem_of_getElem? (i := 172) rfl)) rfl
theorem tw_1133 : (Jvm.Cond.code ({ cls := "DeckFrontModel", name := "later", desc := "(II)I" } : Jvm.MethodName) prog_8_method_62_code (4 : Nat) (Option.some Jvm.ClassFile.FieldType.int)) ∈ wG := wg_in (wt_5 (List.mem_of_getElem? (i := 173) rfl)) rfl
theorem tw_1134 : (Jvm.Cond.methodLink "DeckFrontModel" (342 : Nat) ({ cls := "DeckFrontModel", name := "isLabel", desc := "(II)Z" } : Jvm.MethodName)) ∈ wG := wg_in (wt_5 (List.mem_of_getElem? (i := 174) rfl)) rfl
theorem tw_1136 : (Jvm.Cond.instanceMethod ({ cls := "DeckFrontModel", name := "isLabel", desc := "(II)Z" } : Jvm.MethodName)) ∈ wG := wg_in (wt_5 (List.mem_of_getElem? (i := 176) rfl)) rfl
theorem tw_1137 : (Jvm.Cond.code ({ cls := "DeckFrontModel", name := "isLabel", desc := "(II)Z" } : Jvm.MethodName) prog_8_method_59_code (5 : Nat) (Option.some Jvm.ClassFile.FieldType.boolean)) ∈ wG := wg_in (wt_5 (List.mem_of_getElem? (i := 177) rfl)) rfl
theorem tw_1138 : (Jvm.Cond.methodLink "DeckFrontLaw" (75 : Nat) ({ cls := "DeckFrontModel", name := "faultAt", desc := "()I" } : Jvm.MethodName)) ∈ wG := wg_in (wt_5 (List.mem_of_getElem? (i := 178) rfl)) rfl
theorem tw_1139 : (Jvm.Cond.instanceMethod ({ cls := "DeckFrontModel", name := "faultAt", desc := "()I" } : Jvm.MethodName)) ∈ wG := wg_in (wt_5 (List.mem_of_getElem? (i := 179) rfl)) rfl
theorem tw_1140 : (Jvm.Cond.selects "DeckFrontModel" ({ cls := "DeckFrontModel", name := "faultAt", desc := "()I" } : Jvm.MethodName) ({ cls := "DeckFrontModel", name := "faultAt", desc := "()I" } : Jvm.MethodName)) ∈ wG := wg_in (wt_5 (List.mem_of_getElem? (i := 180) rfl)) rfl
theorem tw_1141 : (Jvm.Cond.code ({ cls := "DeckFrontModel", name := "faultAt", desc := "()I" } : Jvm.MethodName) prog_8_method_65_code (2 : Nat) (Option.some Jvm.ClassFile.FieldType.int)) ∈ wG := wg_in (wt_5 (List.mem_of_getElem? (i := 181) rfl)) rfl
theorem tw_1142 : (Jvm.Cond.constantLong "DeckFrontLaw" (21 : Nat) (4294967295 : Int64)) ∈ wG := wg_in (wt_5 (List.mem_of_getElem? (i := 182) rfl)) rfl
theorem tw_1143 : (Jvm.Cond.sameMethod "DeckFront$Tape" "DeckFront$Tape" "nameAt" "(I)J") ∈ wG := wg_in (wt_5 (List.mem_of_getElem? (i := 183) rfl)) rfl
theorem tw_1144 : (Jvm.Cond.sameMethod "java/lang/Throwable" "java/lang/Throwable" "fillInStackTrace" "(I)Ljava/lang/Throwable;") ∈ wG := wg_in (wt_5 (List.mem_of_getElem? (i := 184) rfl)) rfl
theorem tw_1145 : (Jvm.Cond.sameMethod "DeckFront$Tape" "DeckFront$Tape" "digitsEnd" "(I)I") ∈ wG := wg_in (wt_5 (List.mem_of_getElem? (i := 185) rfl)) rfl
theorem tw_1146 : (Jvm.Cond.sameMethod "DeckFront$Tape" "DeckFront$Tape" "standsLogicalWord" "(I)Z") ∈ wG := wg_in (wt_5 (List.mem_of_getElem? (i := 186) rfl)) rfl
theorem tw_1147 : (Jvm.Cond.fieldLink "java/lang/String" (15 : Nat) "java/lang/String" "coder" "B") ∈ wG := wg_in (wt_5 (List.mem_of_getElem? (i := 187) rfl)) rfl
theorem tw_1148 : (Jvm.Cond.fieldLink "java/lang/String" (9 : Nat) "java/lang/String" "value" "[B") ∈ wG := wg_in (wt_5 (List.mem_of_getElem? (i := 188) rfl)) rfl
theorem tp_1_0 : Jvm.Cond.selects "DeckFront$Structure" ({ cls := "DeckFront$Structure", name := "faultOf", desc := "(LDeckFront$Deck;I)I" } : Jvm.MethodName) ({ cls := "DeckFront$Structure", name := "faultOf", desc := "(LDeckFront$Deck;I)I" } : Jvm.MethodName) ∈ wG := wg_in (List.mem_append_left _ (List.mem_map.mpr ⟨_, (List.mem_append_left _ (List.mem_of_getElem? (i := 0) rfl)), rfl⟩)) rfl
theorem tp_1_1 : Jvm.Cond.selects "DeckFront$Structure" ({ cls := "DeckFront$Structure", name := "branchFits", desc := "(LDeckFront$Statement;)Z" } : Jvm.MethodName) ({ cls := "DeckFront$Structure", name := "branchFits", desc := "(LDeckFront$Statement;)Z" } : Jvm.MethodName) ∈ wG := wg_in (List.mem_append_left _ (List.mem_map.mpr ⟨_, (List.mem_append_left _ (List.mem_of_getElem? (i := 1) rfl)), rfl⟩)) rfl
theorem tp_1_2 : Jvm.Cond.selects "DeckFront$Structure" ({ cls := "DeckFront$Structure", name := "innermost", desc := "()I" } : Jvm.MethodName) ({ cls := "DeckFront$Structure", name := "innermost", desc := "()I" } : Jvm.MethodName) ∈ wG := wg_in (List.mem_append_left _ (List.mem_map.mpr ⟨_, (List.mem_append_left _ (List.mem_of_getElem? (i := 2) rfl)), rfl⟩)) rfl
theorem tp_1_3 : Jvm.Cond.selects "DeckFront$Structure" ({ cls := "DeckFront$Structure", name := "isOpen", desc := "(I)Z" } : Jvm.MethodName) ({ cls := "DeckFront$Structure", name := "isOpen", desc := "(I)Z" } : Jvm.MethodName) ∈ wG := wg_in (List.mem_append_left _ (List.mem_map.mpr ⟨_, (List.mem_append_left _ (List.mem_of_getElem? (i := 3) rfl)), rfl⟩)) rfl
theorem tp_1_4 : Jvm.Cond.selects "DeckFront$Structure" ({ cls := "DeckFront$Structure", name := "endWhatEnds", desc := "(LDeckFront$Statement;)V" } : Jvm.MethodName) ({ cls := "DeckFront$Structure", name := "endWhatEnds", desc := "(LDeckFront$Statement;)V" } : Jvm.MethodName) ∈ wG := wg_in (List.mem_append_left _ (List.mem_map.mpr ⟨_, (List.mem_append_left _ (List.mem_of_getElem? (i := 4) rfl)), rfl⟩)) rfl
theorem tp_1_5 : Jvm.Cond.selects "DeckFront$Structure" ({ cls := "DeckFront$Structure", name := "hasItsLabels", desc := "(LDeckFront$Deck;I)Z" } : Jvm.MethodName) ({ cls := "DeckFront$Structure", name := "hasItsLabels", desc := "(LDeckFront$Deck;I)Z" } : Jvm.MethodName) ∈ wG := wg_in (List.mem_append_left _ (List.mem_map.mpr ⟨_, (List.mem_append_left _ (List.mem_of_getElem? (i := 5) rfl)), rfl⟩)) rfl
theorem tp_1_6 : Jvm.Cond.selects "DeckFront$Structure" ({ cls := "DeckFront$Structure", name := "openWhatOpens", desc := "(LDeckFront$Statement;)V" } : Jvm.MethodName) ({ cls := "DeckFront$Structure", name := "openWhatOpens", desc := "(LDeckFront$Statement;)V" } : Jvm.MethodName) ∈ wG := wg_in (List.mem_append_left _ (List.mem_map.mpr ⟨_, (List.mem_append_left _ (List.mem_of_getElem? (i := 6) rfl)), rfl⟩)) rfl
theorem tp_1_7 : Jvm.Cond.selects "DeckFront$Deck" ({ cls := "DeckFront$Deck", name := "carryOn", desc := "(LDeckFront$Card;)I" } : Jvm.MethodName) ({ cls := "DeckFront$Deck", name := "carryOn", desc := "(LDeckFront$Card;)I" } : Jvm.MethodName) ∈ wG := wg_in (List.mem_append_left _ (List.mem_map.mpr ⟨_, (List.mem_append_left _ (List.mem_of_getElem? (i := 7) rfl)), rfl⟩)) rfl
theorem tp_1_8 : Jvm.Cond.selects "DeckFront$Deck" ({ cls := "DeckFront$Deck", name := "begin", desc := "(LDeckFront$Card;)I" } : Jvm.MethodName) ({ cls := "DeckFront$Deck", name := "begin", desc := "(LDeckFront$Card;)I" } : Jvm.MethodName) ∈ wG := wg_in (List.mem_append_left _ (List.mem_map.mpr ⟨_, (List.mem_append_left _ (List.mem_of_getElem? (i := 8) rfl)), rfl⟩)) rfl
theorem tp_1_9 : Jvm.Cond.selects "java/lang/Throwable" ({ cls := "java/lang/Throwable", name := "fillInStackTrace", desc := "(I)Ljava/lang/Throwable;" } : Jvm.MethodName) ({ cls := "java/lang/Throwable", name := "fillInStackTrace", desc := "(I)Ljava/lang/Throwable;" } : Jvm.MethodName) ∈ wG := wg_in (List.mem_append_left _ (List.mem_map.mpr ⟨_, (List.mem_append_left _ (List.mem_of_getElem? (i := 9) rfl)), rfl⟩)) rfl
theorem tp_1_10 : Jvm.Cond.selects "DeckFront$Statement" ({ cls := "DeckFront$Statement", name := "firstThatFits", desc := "(I)I" } : Jvm.MethodName) ({ cls := "DeckFront$Statement", name := "firstThatFits", desc := "(I)I" } : Jvm.MethodName) ∈ wG := wg_in (List.mem_append_left _ (List.mem_map.mpr ⟨_, (List.mem_append_left _ (List.mem_of_getElem? (i := 10) rfl)), rfl⟩)) rfl
theorem tp_1_11 : Jvm.Cond.selects "DeckFront$Statement" ({ cls := "DeckFront$Statement", name := "fits", desc := "(I)Z" } : Jvm.MethodName) ({ cls := "DeckFront$Statement", name := "fits", desc := "(I)Z" } : Jvm.MethodName) ∈ wG := wg_in (List.mem_append_left _ (List.mem_map.mpr ⟨_, (List.mem_append_left _ (List.mem_of_getElem? (i := 11) rfl)), rfl⟩)) rfl
theorem tp_1_12 : Jvm.Cond.selects "DeckFront$Statement" ({ cls := "DeckFront$Statement", name := "expression", desc := "(II)Z" } : Jvm.MethodName) ({ cls := "DeckFront$Statement", name := "expression", desc := "(II)Z" } : Jvm.MethodName) ∈ wG := wg_in (List.mem_append_left _ (List.mem_map.mpr ⟨_, (List.mem_append_left _ (List.mem_of_getElem? (i := 12) rfl)), rfl⟩)) rfl
theorem tp_1_13 : Jvm.Cond.selects "DeckFront$Statement" ({ cls := "DeckFront$Statement", name := "power", desc := "(I)Z" } : Jvm.MethodName) ({ cls := "DeckFront$Statement", name := "power", desc := "(I)Z" } : Jvm.MethodName) ∈ wG := wg_in (List.mem_append_left _ (List.mem_map.mpr ⟨_, (List.mem_append_left _ (List.mem_of_getElem? (i := 13) rfl)), rfl⟩)) rfl
theorem tp_1_14 : Jvm.Cond.selects "DeckFront$Statement" ({ cls := "DeckFront$Statement", name := "primary", desc := "(I)Z" } : Jvm.MethodName) ({ cls := "DeckFront$Statement", name := "primary", desc := "(I)Z" } : Jvm.MethodName) ∈ wG := wg_in (List.mem_append_left _ (List.mem_map.mpr ⟨_, (List.mem_append_left _ (List.mem_of_getElem? (i := 14) rfl)), rfl⟩)) rfl
theorem tp_1_15 : Jvm.Cond.selects "DeckFront$Statement" ({ cls := "DeckFront$Statement", name := "group", desc := "(I)Z" } : Jvm.MethodName) ({ cls := "DeckFront$Statement", name := "group", desc := "(I)Z" } : Jvm.MethodName) ∈ wG := wg_in (List.mem_append_left _ (List.mem_map.mpr ⟨_, (List.mem_append_left _ (List.mem_of_getElem? (i := 15) rfl)), rfl⟩)) rfl
theorem tp_2_0 : Jvm.Cond.selects "DeckFront$Statement" ({ cls := "DeckFront$Statement", name := "reference", desc := "(IZ)Z" } : Jvm.MethodName) ({ cls := "DeckFront$Statement", name := "reference", desc := "(IZ)Z" } : Jvm.MethodName) ∈ wG := wg_in (List.mem_append_left _ (List.mem_map.mpr ⟨_, (List.mem_append_right _ (List.mem_append_left _ (List.mem_of_getElem? (i := 0) rfl))), rfl⟩)) rfl
theorem tp_2_1 : Jvm.Cond.selects "DeckFront$Statement" ({ cls := "DeckFront$Statement", name := "list", desc := "(I)Z" } : Jvm.MethodName) ({ cls := "DeckFront$Statement", name := "list", desc := "(I)Z" } : Jvm.MethodName) ∈ wG := wg_in (List.mem_append_left _ (List.mem_map.mpr ⟨_, (List.mem_append_right _ (List.mem_append_left _ (List.mem_of_getElem? (i := 1) rfl))), rfl⟩)) rfl
theorem tp_2_2 : Jvm.Cond.selects "DeckFront$Statement" ({ cls := "DeckFront$Statement", name := "expressions", desc := "(I)Z" } : Jvm.MethodName) ({ cls := "DeckFront$Statement", name := "expressions", desc := "(I)Z" } : Jvm.MethodName) ∈ wG := wg_in (List.mem_append_left _ (List.mem_map.mpr ⟨_, (List.mem_append_right _ (List.mem_append_left _ (List.mem_of_getElem? (i := 2) rfl))), rfl⟩)) rfl
theorem tp_2_3 : Jvm.Cond.selects "DeckFront$Statement" ({ cls := "DeckFront$Statement", name := "takeSignsBefore", desc := "(I)I" } : Jvm.MethodName) ({ cls := "DeckFront$Statement", name := "takeSignsBefore", desc := "(I)I" } : Jvm.MethodName) ∈ wG := wg_in (List.mem_append_left _ (List.mem_map.mpr ⟨_, (List.mem_append_right _ (List.mem_append_left _ (List.mem_of_getElem? (i := 3) rfl))), rfl⟩)) rfl
theorem tp_2_4 : Jvm.Cond.selects "DeckFront$Statement" ({ cls := "DeckFront$Statement", name := "takeSignBetween", desc := "(I)Z" } : Jvm.MethodName) ({ cls := "DeckFront$Statement", name := "takeSignBetween", desc := "(I)Z" } : Jvm.MethodName) ∈ wG := wg_in (List.mem_append_left _ (List.mem_map.mpr ⟨_, (List.mem_append_right _ (List.mem_append_left _ (List.mem_of_getElem? (i := 4) rfl))), rfl⟩)) rfl
theorem tp_2_5 : Jvm.Cond.selects "DeckFront$Statement" ({ cls := "DeckFront$Statement", name := "series", desc := "(I)Z" } : Jvm.MethodName) ({ cls := "DeckFront$Statement", name := "series", desc := "(I)Z" } : Jvm.MethodName) ∈ wG := wg_in (List.mem_append_left _ (List.mem_map.mpr ⟨_, (List.mem_append_right _ (List.mem_append_left _ (List.mem_of_getElem? (i := 5) rfl))), rfl⟩)) rfl
theorem tp_2_6 : Jvm.Cond.selects "DeckFront$Statement" ({ cls := "DeckFront$Statement", name := "item", desc := "(I)Z" } : Jvm.MethodName) ({ cls := "DeckFront$Statement", name := "item", desc := "(I)Z" } : Jvm.MethodName) ∈ wG := wg_in (List.mem_append_left _ (List.mem_map.mpr ⟨_, (List.mem_append_right _ (List.mem_append_left _ (List.mem_of_getElem? (i := 6) rfl))), rfl⟩)) rfl
theorem tp_2_7 : Jvm.Cond.selects "DeckFrontModel" ({ cls := "DeckFrontModel", name := "isComment", desc := "()Z" } : Jvm.MethodName) ({ cls := "DeckFrontModel", name := "isComment", desc := "()Z" } : Jvm.MethodName) ∈ wG := wg_in (List.mem_append_left _ (List.mem_map.mpr ⟨_, (List.mem_append_right _ (List.mem_append_left _ (List.mem_of_getElem? (i := 7) rfl))), rfl⟩)) rfl
theorem tp_2_8 : Jvm.Cond.selects "DeckFrontModel" ({ cls := "DeckFrontModel", name := "joined", desc := "(I)I" } : Jvm.MethodName) ({ cls := "DeckFrontModel", name := "joined", desc := "(I)I" } : Jvm.MethodName) ∈ wG := wg_in (List.mem_append_left _ (List.mem_map.mpr ⟨_, (List.mem_append_right _ (List.mem_append_left _ (List.mem_of_getElem? (i := 8) rfl))), rfl⟩)) rfl
theorem tp_2_9 : Jvm.Cond.selects "DeckFrontModel" ({ cls := "DeckFrontModel", name := "inQuote", desc := "(I)Z" } : Jvm.MethodName) ({ cls := "DeckFrontModel", name := "inQuote", desc := "(I)Z" } : Jvm.MethodName) ∈ wG := wg_in (List.mem_append_left _ (List.mem_map.mpr ⟨_, (List.mem_append_right _ (List.mem_append_left _ (List.mem_of_getElem? (i := 9) rfl))), rfl⟩)) rfl
theorem tp_2_10 : Jvm.Cond.selects "DeckFrontModel" ({ cls := "DeckFrontModel", name := "there", desc := "(I)Z" } : Jvm.MethodName) ({ cls := "DeckFrontModel", name := "there", desc := "(I)Z" } : Jvm.MethodName) ∈ wG := wg_in (List.mem_append_left _ (List.mem_map.mpr ⟨_, (List.mem_append_right _ (List.mem_append_left _ (List.mem_of_getElem? (i := 10) rfl))), rfl⟩)) rfl
theorem tp_2_11 : Jvm.Cond.selects "DeckFrontModel" ({ cls := "DeckFrontModel", name := "read", desc := "(I)I" } : Jvm.MethodName) ({ cls := "DeckFrontModel", name := "read", desc := "(I)I" } : Jvm.MethodName) ∈ wG := wg_in (List.mem_append_left _ (List.mem_map.mpr ⟨_, (List.mem_append_right _ (List.mem_append_left _ (List.mem_of_getElem? (i := 11) rfl))), rfl⟩)) rfl
theorem tp_2_12 : Jvm.Cond.selects "DeckFrontModel" ({ cls := "DeckFrontModel", name := "isIf", desc := "()Z" } : Jvm.MethodName) ({ cls := "DeckFrontModel", name := "isIf", desc := "()Z" } : Jvm.MethodName) ∈ wG := wg_in (List.mem_append_left _ (List.mem_map.mpr ⟨_, (List.mem_append_right _ (List.mem_append_left _ (List.mem_of_getElem? (i := 12) rfl))), rfl⟩)) rfl
theorem tp_2_13 : Jvm.Cond.selects "DeckFrontModel" ({ cls := "DeckFrontModel", name := "word", desc := "(J)Z" } : Jvm.MethodName) ({ cls := "DeckFrontModel", name := "word", desc := "(J)Z" } : Jvm.MethodName) ∈ wG := wg_in (List.mem_append_left _ (List.mem_map.mpr ⟨_, (List.mem_append_right _ (List.mem_append_left _ (List.mem_of_getElem? (i := 13) rfl))), rfl⟩)) rfl
theorem tp_2_14 : Jvm.Cond.selects "DeckFrontModel" ({ cls := "DeckFrontModel", name := "at", desc := "(I)I" } : Jvm.MethodName) ({ cls := "DeckFrontModel", name := "at", desc := "(I)I" } : Jvm.MethodName) ∈ wG := wg_in (List.mem_append_left _ (List.mem_map.mpr ⟨_, (List.mem_append_right _ (List.mem_append_left _ (List.mem_of_getElem? (i := 14) rfl))), rfl⟩)) rfl
theorem tp_2_15 : Jvm.Cond.selects "DeckFrontModel" ({ cls := "DeckFrontModel", name := "putPart", desc := "(II)V" } : Jvm.MethodName) ({ cls := "DeckFrontModel", name := "putPart", desc := "(II)V" } : Jvm.MethodName) ∈ wG := wg_in (List.mem_append_left _ (List.mem_map.mpr ⟨_, (List.mem_append_right _ (List.mem_append_left _ (List.mem_of_getElem? (i := 15) rfl))), rfl⟩)) rfl
theorem tp_3_0 : Jvm.Cond.selects "DeckFrontModel" ({ cls := "DeckFrontModel", name := "put", desc := "(I)V" } : Jvm.MethodName) ({ cls := "DeckFrontModel", name := "put", desc := "(I)V" } : Jvm.MethodName) ∈ wG := wg_in (List.mem_append_left _ (List.mem_map.mpr ⟨_, (List.mem_append_right _ (List.mem_append_right _ (List.mem_append_left _ (List.mem_of_getElem? (i := 0) rfl)))), rfl⟩)) rfl
theorem tp_3_1 : Jvm.Cond.selects "DeckFrontModel" ({ cls := "DeckFrontModel", name := "expression", desc := "(I)Z" } : Jvm.MethodName) ({ cls := "DeckFrontModel", name := "expression", desc := "(I)Z" } : Jvm.MethodName) ∈ wG := wg_in (List.mem_append_left _ (List.mem_map.mpr ⟨_, (List.mem_append_right _ (List.mem_append_right _ (List.mem_append_left _ (List.mem_of_getElem? (i := 1) rfl)))), rfl⟩)) rfl
theorem tp_3_2 : Jvm.Cond.selects "DeckFrontModel" ({ cls := "DeckFrontModel", name := "wanted", desc := "(II)I" } : Jvm.MethodName) ({ cls := "DeckFrontModel", name := "wanted", desc := "(II)I" } : Jvm.MethodName) ∈ wG := wg_in (List.mem_append_left _ (List.mem_map.mpr ⟨_, (List.mem_append_right _ (List.mem_append_right _ (List.mem_append_left _ (List.mem_of_getElem? (i := 2) rfl)))), rfl⟩)) rfl
theorem tp_3_3 : Jvm.Cond.selects "DeckFrontModel" ({ cls := "DeckFrontModel", name := "numberEnd", desc := "(I)I" } : Jvm.MethodName) ({ cls := "DeckFrontModel", name := "numberEnd", desc := "(I)I" } : Jvm.MethodName) ∈ wG := wg_in (List.mem_append_left _ (List.mem_map.mpr ⟨_, (List.mem_append_right _ (List.mem_append_right _ (List.mem_append_left _ (List.mem_of_getElem? (i := 3) rfl)))), rfl⟩)) rfl
theorem tp_3_4 : Jvm.Cond.selects "DeckFrontModel" ({ cls := "DeckFrontModel", name := "dots", desc := "(I)I" } : Jvm.MethodName) ({ cls := "DeckFrontModel", name := "dots", desc := "(I)I" } : Jvm.MethodName) ∈ wG := wg_in (List.mem_append_left _ (List.mem_map.mpr ⟨_, (List.mem_append_right _ (List.mem_append_right _ (List.mem_append_left _ (List.mem_of_getElem? (i := 4) rfl)))), rfl⟩)) rfl
theorem tp_3_5 : Jvm.Cond.selects "DeckFrontModel" ({ cls := "DeckFrontModel", name := "nameEnd", desc := "(I)I" } : Jvm.MethodName) ({ cls := "DeckFrontModel", name := "nameEnd", desc := "(I)I" } : Jvm.MethodName) ∈ wG := wg_in (List.mem_append_left _ (List.mem_map.mpr ⟨_, (List.mem_append_right _ (List.mem_append_right _ (List.mem_append_left _ (List.mem_of_getElem? (i := 5) rfl)))), rfl⟩)) rfl
theorem tp_3_6 : Jvm.Cond.selects "DeckFrontModel" ({ cls := "DeckFrontModel", name := "part", desc := "(IIIII)I" } : Jvm.MethodName) ({ cls := "DeckFrontModel", name := "part", desc := "(IIIII)I" } : Jvm.MethodName) ∈ wG := wg_in (List.mem_append_left _ (List.mem_map.mpr ⟨_, (List.mem_append_right _ (List.mem_append_right _ (List.mem_append_left _ (List.mem_of_getElem? (i := 6) rfl)))), rfl⟩)) rfl
theorem tp_3_7 : Jvm.Cond.selects "DeckFrontModel" ({ cls := "DeckFrontModel", name := "value", desc := "(I)V" } : Jvm.MethodName) ({ cls := "DeckFrontModel", name := "value", desc := "(I)V" } : Jvm.MethodName) ∈ wG := wg_in (List.mem_append_left _ (List.mem_map.mpr ⟨_, (List.mem_append_right _ (List.mem_append_right _ (List.mem_append_left _ (List.mem_of_getElem? (i := 7) rfl)))), rfl⟩)) rfl
theorem tp_3_8 : Jvm.Cond.selects "DeckFrontModel" ({ cls := "DeckFrontModel", name := "use", desc := "(IIII)V" } : Jvm.MethodName) ({ cls := "DeckFrontModel", name := "use", desc := "(IIII)V" } : Jvm.MethodName) ∈ wG := wg_in (List.mem_append_left _ (List.mem_map.mpr ⟨_, (List.mem_append_right _ (List.mem_append_right _ (List.mem_append_left _ (List.mem_of_getElem? (i := 8) rfl)))), rfl⟩)) rfl
theorem tp_3_9 : Jvm.Cond.selects "DeckFrontModel" ({ cls := "DeckFrontModel", name := "push", desc := "(IIIZ)V" } : Jvm.MethodName) ({ cls := "DeckFrontModel", name := "push", desc := "(IIIZ)V" } : Jvm.MethodName) ∈ wG := wg_in (List.mem_append_left _ (List.mem_map.mpr ⟨_, (List.mem_append_right _ (List.mem_append_right _ (List.mem_append_left _ (List.mem_of_getElem? (i := 9) rfl)))), rfl⟩)) rfl
theorem tp_3_10 : Jvm.Cond.selects "DeckFrontModel" ({ cls := "DeckFrontModel", name := "dotted", desc := "(I)I" } : Jvm.MethodName) ({ cls := "DeckFrontModel", name := "dotted", desc := "(I)I" } : Jvm.MethodName) ∈ wG := wg_in (List.mem_append_left _ (List.mem_map.mpr ⟨_, (List.mem_append_right _ (List.mem_append_right _ (List.mem_append_left _ (List.mem_of_getElem? (i := 10) rfl)))), rfl⟩)) rfl
theorem tp_3_11 : Jvm.Cond.selects "DeckFrontModel" ({ cls := "DeckFrontModel", name := "between", desc := "()I" } : Jvm.MethodName) ({ cls := "DeckFrontModel", name := "between", desc := "()I" } : Jvm.MethodName) ∈ wG := wg_in (List.mem_append_left _ (List.mem_map.mpr ⟨_, (List.mem_append_right _ (List.mem_append_right _ (List.mem_append_left _ (List.mem_of_getElem? (i := 11) rfl)))), rfl⟩)) rfl
theorem tp_3_12 : Jvm.Cond.selects "DeckFrontModel" ({ cls := "DeckFrontModel", name := "related", desc := "()Z" } : Jvm.MethodName) ({ cls := "DeckFrontModel", name := "related", desc := "()Z" } : Jvm.MethodName) ∈ wG := wg_in (List.mem_append_left _ (List.mem_map.mpr ⟨_, (List.mem_append_right _ (List.mem_append_right _ (List.mem_append_left _ (List.mem_of_getElem? (i := 12) rfl)))), rfl⟩)) rfl
theorem tp_3_13 : Jvm.Cond.selects "DeckFrontModel" ({ cls := "DeckFrontModel", name := "reduce", desc := "(I)V" } : Jvm.MethodName) ({ cls := "DeckFrontModel", name := "reduce", desc := "(I)V" } : Jvm.MethodName) ∈ wG := wg_in (List.mem_append_left _ (List.mem_map.mpr ⟨_, (List.mem_append_right _ (List.mem_append_right _ (List.mem_append_left _ (List.mem_of_getElem? (i := 13) rfl)))), rfl⟩)) rfl
theorem tp_3_14 : Jvm.Cond.selects "DeckFrontModel" ({ cls := "DeckFrontModel", name := "print", desc := "(I)V" } : Jvm.MethodName) ({ cls := "DeckFrontModel", name := "print", desc := "(I)V" } : Jvm.MethodName) ∈ wG := wg_in (List.mem_append_left _ (List.mem_map.mpr ⟨_, (List.mem_append_right _ (List.mem_append_right _ (List.mem_append_left _ (List.mem_of_getElem? (i := 14) rfl)))), rfl⟩)) rfl
theorem tp_3_15 : Jvm.Cond.selects "DeckFrontModel" ({ cls := "DeckFrontModel", name := "joins", desc := "()V" } : Jvm.MethodName) ({ cls := "DeckFrontModel", name := "joins", desc := "()V" } : Jvm.MethodName) ∈ wG := wg_in (List.mem_append_left _ (List.mem_map.mpr ⟨_, (List.mem_append_right _ (List.mem_append_right _ (List.mem_append_left _ (List.mem_of_getElem? (i := 15) rfl)))), rfl⟩)) rfl
theorem tp_4_0 : Jvm.Cond.selects "DeckFrontModel" ({ cls := "DeckFrontModel", name := "sign", desc := "(I)Z" } : Jvm.MethodName) ({ cls := "DeckFrontModel", name := "sign", desc := "(I)Z" } : Jvm.MethodName) ∈ wG := wg_in (List.mem_append_left _ (List.mem_map.mpr ⟨_, (List.mem_append_right _ (List.mem_append_right _ (List.mem_append_right _ (List.mem_append_left _ (List.mem_of_getElem? (i := 0) rfl))))), rfl⟩)) rfl
theorem tp_4_1 : Jvm.Cond.selects "DeckFrontModel" ({ cls := "DeckFrontModel", name := "behind", desc := "()I" } : Jvm.MethodName) ({ cls := "DeckFrontModel", name := "behind", desc := "()I" } : Jvm.MethodName) ∈ wG := wg_in (List.mem_append_left _ (List.mem_map.mpr ⟨_, (List.mem_append_right _ (List.mem_append_right _ (List.mem_append_right _ (List.mem_append_left _ (List.mem_of_getElem? (i := 1) rfl))))), rfl⟩)) rfl
theorem tp_4_2 : Jvm.Cond.selects "DeckFrontModel" ({ cls := "DeckFrontModel", name := "simple", desc := "(I)Z" } : Jvm.MethodName) ({ cls := "DeckFrontModel", name := "simple", desc := "(I)Z" } : Jvm.MethodName) ∈ wG := wg_in (List.mem_append_left _ (List.mem_map.mpr ⟨_, (List.mem_append_right _ (List.mem_append_right _ (List.mem_append_right _ (List.mem_append_left _ (List.mem_of_getElem? (i := 2) rfl))))), rfl⟩)) rfl
theorem tp_4_3 : Jvm.Cond.selects "DeckFrontModel" ({ cls := "DeckFrontModel", name := "isDo", desc := "()Z" } : Jvm.MethodName) ({ cls := "DeckFrontModel", name := "isDo", desc := "()Z" } : Jvm.MethodName) ∈ wG := wg_in (List.mem_append_left _ (List.mem_map.mpr ⟨_, (List.mem_append_right _ (List.mem_append_right _ (List.mem_append_right _ (List.mem_append_left _ (List.mem_of_getElem? (i := 3) rfl))))), rfl⟩)) rfl
theorem tp_4_4 : Jvm.Cond.selects "DeckFrontModel" ({ cls := "DeckFrontModel", name := "digits", desc := "(I)I" } : Jvm.MethodName) ({ cls := "DeckFrontModel", name := "digits", desc := "(I)I" } : Jvm.MethodName) ∈ wG := wg_in (List.mem_append_left _ (List.mem_map.mpr ⟨_, (List.mem_append_right _ (List.mem_append_right _ (List.mem_append_right _ (List.mem_append_left _ (List.mem_of_getElem? (i := 4) rfl))))), rfl⟩)) rfl
theorem tp_4_5 : Jvm.Cond.selects "DeckFrontModel" ({ cls := "DeckFrontModel", name := "comma", desc := "()V" } : Jvm.MethodName) ({ cls := "DeckFrontModel", name := "comma", desc := "()V" } : Jvm.MethodName) ∈ wG := wg_in (List.mem_append_left _ (List.mem_map.mpr ⟨_, (List.mem_append_right _ (List.mem_append_right _ (List.mem_append_right _ (List.mem_append_left _ (List.mem_of_getElem? (i := 5) rfl))))), rfl⟩)) rfl
theorem tp_4_6 : Jvm.Cond.selects "DeckFrontModel" ({ cls := "DeckFrontModel", name := "name", desc := "(II)Z" } : Jvm.MethodName) ({ cls := "DeckFrontModel", name := "name", desc := "(II)Z" } : Jvm.MethodName) ∈ wG := wg_in (List.mem_append_left _ (List.mem_map.mpr ⟨_, (List.mem_append_right _ (List.mem_append_right _ (List.mem_append_right _ (List.mem_append_left _ (List.mem_of_getElem? (i := 6) rfl))))), rfl⟩)) rfl
theorem tp_4_7 : Jvm.Cond.selects "DeckFrontModel" ({ cls := "DeckFrontModel", name := "isAssignment", desc := "()Z" } : Jvm.MethodName) ({ cls := "DeckFrontModel", name := "isAssignment", desc := "()Z" } : Jvm.MethodName) ∈ wG := wg_in (List.mem_append_left _ (List.mem_map.mpr ⟨_, (List.mem_append_right _ (List.mem_append_right _ (List.mem_append_right _ (List.mem_append_left _ (List.mem_of_getElem? (i := 7) rfl))))), rfl⟩)) rfl
theorem tp_4_8 : Jvm.Cond.selects "DeckFrontModel" ({ cls := "DeckFrontModel", name := "nameWithList", desc := "(II)Z" } : Jvm.MethodName) ({ cls := "DeckFrontModel", name := "nameWithList", desc := "(II)Z" } : Jvm.MethodName) ∈ wG := wg_in (List.mem_append_left _ (List.mem_map.mpr ⟨_, (List.mem_append_right _ (List.mem_append_right _ (List.mem_append_right _ (List.mem_append_left _ (List.mem_of_getElem? (i := 8) rfl))))), rfl⟩)) rfl
theorem tp_4_9 : Jvm.Cond.selects "DeckFrontModel" ({ cls := "DeckFrontModel", name := "expressions", desc := "(I)Z" } : Jvm.MethodName) ({ cls := "DeckFrontModel", name := "expressions", desc := "(I)Z" } : Jvm.MethodName) ∈ wG := wg_in (List.mem_append_left _ (List.mem_map.mpr ⟨_, (List.mem_append_right _ (List.mem_append_right _ (List.mem_append_right _ (List.mem_append_left _ (List.mem_of_getElem? (i := 9) rfl))))), rfl⟩)) rfl
theorem tp_4_10 : Jvm.Cond.selects "DeckFrontModel" ({ cls := "DeckFrontModel", name := "isThen", desc := "(J)Z" } : Jvm.MethodName) ({ cls := "DeckFrontModel", name := "isThen", desc := "(J)Z" } : Jvm.MethodName) ∈ wG := wg_in (List.mem_append_left _ (List.mem_map.mpr ⟨_, (List.mem_append_right _ (List.mem_append_right _ (List.mem_append_right _ (List.mem_append_left _ (List.mem_of_getElem? (i := 10) rfl))))), rfl⟩)) rfl
theorem tp_4_11 : Jvm.Cond.selects "DeckFrontModel" ({ cls := "DeckFrontModel", name := "alone", desc := "(JI)Z" } : Jvm.MethodName) ({ cls := "DeckFrontModel", name := "alone", desc := "(JI)Z" } : Jvm.MethodName) ∈ wG := wg_in (List.mem_append_left _ (List.mem_map.mpr ⟨_, (List.mem_append_right _ (List.mem_append_right _ (List.mem_append_right _ (List.mem_append_left _ (List.mem_of_getElem? (i := 11) rfl))))), rfl⟩)) rfl
theorem tp_4_12 : Jvm.Cond.selects "DeckFrontModel" ({ cls := "DeckFrontModel", name := "isGoTo", desc := "()Z" } : Jvm.MethodName) ({ cls := "DeckFrontModel", name := "isGoTo", desc := "()Z" } : Jvm.MethodName) ∈ wG := wg_in (List.mem_append_left _ (List.mem_map.mpr ⟨_, (List.mem_append_right _ (List.mem_append_right _ (List.mem_append_right _ (List.mem_append_left _ (List.mem_of_getElem? (i := 12) rfl))))), rfl⟩)) rfl
theorem tp_4_13 : Jvm.Cond.selects "DeckFrontModel" ({ cls := "DeckFrontModel", name := "isCall", desc := "()Z" } : Jvm.MethodName) ({ cls := "DeckFrontModel", name := "isCall", desc := "()Z" } : Jvm.MethodName) ∈ wG := wg_in (List.mem_append_left _ (List.mem_map.mpr ⟨_, (List.mem_append_right _ (List.mem_append_right _ (List.mem_append_right _ (List.mem_append_left _ (List.mem_of_getElem? (i := 13) rfl))))), rfl⟩)) rfl
theorem tp_4_14 : Jvm.Cond.selects "DeckFrontModel" ({ cls := "DeckFrontModel", name := "isType", desc := "()Z" } : Jvm.MethodName) ({ cls := "DeckFrontModel", name := "isType", desc := "()Z" } : Jvm.MethodName) ∈ wG := wg_in (List.mem_append_left _ (List.mem_map.mpr ⟨_, (List.mem_append_right _ (List.mem_append_right _ (List.mem_append_right _ (List.mem_append_left _ (List.mem_of_getElem? (i := 14) rfl))))), rfl⟩)) rfl
theorem tp_4_15 : Jvm.Cond.selects "DeckFrontModel" ({ cls := "DeckFrontModel", name := "isDimension", desc := "()Z" } : Jvm.MethodName) ({ cls := "DeckFrontModel", name := "isDimension", desc := "()Z" } : Jvm.MethodName) ∈ wG := wg_in (List.mem_append_left _ (List.mem_map.mpr ⟨_, (List.mem_append_right _ (List.mem_append_right _ (List.mem_append_right _ (List.mem_append_left _ (List.mem_of_getElem? (i := 15) rfl))))), rfl⟩)) rfl
theorem tp_5_0 : Jvm.Cond.selects "DeckFrontModel" ({ cls := "DeckFrontModel", name := "isComputed", desc := "()Z" } : Jvm.MethodName) ({ cls := "DeckFrontModel", name := "isComputed", desc := "()Z" } : Jvm.MethodName) ∈ wG := wg_in (List.mem_append_left _ (List.mem_map.mpr ⟨_, (List.mem_append_right _ (List.mem_append_right _ (List.mem_append_right _ (List.mem_append_right _ (List.mem_of_getElem? (i := 0) rfl))))), rfl⟩)) rfl
theorem tp_5_1 : Jvm.Cond.selects "DeckFrontModel" ({ cls := "DeckFrontModel", name := "firstFault", desc := "()I" } : Jvm.MethodName) ({ cls := "DeckFrontModel", name := "firstFault", desc := "()I" } : Jvm.MethodName) ∈ wG := wg_in (List.mem_append_left _ (List.mem_map.mpr ⟨_, (List.mem_append_right _ (List.mem_append_right _ (List.mem_append_right _ (List.mem_append_right _ (List.mem_of_getElem? (i := 1) rfl))))), rfl⟩)) rfl
theorem tp_5_2 : Jvm.Cond.selects "DeckFrontModel" ({ cls := "DeckFrontModel", name := "early", desc := "(IIZ)I" } : Jvm.MethodName) ({ cls := "DeckFrontModel", name := "early", desc := "(IIZ)I" } : Jvm.MethodName) ∈ wG := wg_in (List.mem_append_left _ (List.mem_map.mpr ⟨_, (List.mem_append_right _ (List.mem_append_right _ (List.mem_append_right _ (List.mem_append_right _ (List.mem_of_getElem? (i := 2) rfl))))), rfl⟩)) rfl
theorem tp_5_3 : Jvm.Cond.selects "DeckFrontModel" ({ cls := "DeckFrontModel", name := "isOpen", desc := "(I)Z" } : Jvm.MethodName) ({ cls := "DeckFrontModel", name := "isOpen", desc := "(I)Z" } : Jvm.MethodName) ∈ wG := wg_in (List.mem_append_left _ (List.mem_map.mpr ⟨_, (List.mem_append_right _ (List.mem_append_right _ (List.mem_append_right _ (List.mem_append_right _ (List.mem_of_getElem? (i := 3) rfl))))), rfl⟩)) rfl
theorem tp_5_4 : Jvm.Cond.selects "DeckFrontModel" ({ cls := "DeckFrontModel", name := "later", desc := "(II)I" } : Jvm.MethodName) ({ cls := "DeckFrontModel", name := "later", desc := "(II)I" } : Jvm.MethodName) ∈ wG := wg_in (List.mem_append_left _ (List.mem_map.mpr ⟨_, (List.mem_append_right _ (List.mem_append_right _ (List.mem_append_right _ (List.mem_append_right _ (List.mem_of_getElem? (i := 4) rfl))))), rfl⟩)) rfl
theorem tp_5_5 : Jvm.Cond.selects "DeckFrontModel" ({ cls := "DeckFrontModel", name := "isLabel", desc := "(II)Z" } : Jvm.MethodName) ({ cls := "DeckFrontModel", name := "isLabel", desc := "(II)Z" } : Jvm.MethodName) ∈ wG := wg_in (List.mem_append_left _ (List.mem_map.mpr ⟨_, (List.mem_append_right _ (List.mem_append_right _ (List.mem_append_right _ (List.mem_append_right _ (List.mem_of_getElem? (i := 5) rfl))))), rfl⟩)) rfl
end
section
section RL
/-- a method's end: an answer r and a state u of the world, with post; nothing else of what was there has changed -/
def xQ {S : Type} (D : va_G) (cl : List vw_C) (wd : S → va_W) (A : Nat → Prop) (post : Option Value → S → Prop) : Array Value → State → Outcome → State → Prop := fun _ st oc t => (∃ (r : Option Value) (u : S), oc = .returned r ∧ post r u ∧ va_P D cl (wd u) t.heap ∧ va_D A (wd u)) ∧ va_F A st t
def xB {S : Type} (D : va_G) (cl : List vw_C) (tys : List (ClassId × FieldType)) (Ev : (Nat → Prop) → State → Prop) (wd : S → va_W) (u : S) (sz : Nat) (U : State) : Prop := U.heap.size = sz ∧ va_P D cl (wd u) U.heap ∧ va_K D cl tys U ∧ va_D (fun _ => True) (wd u) ∧ Ev (va_A (wd u) sz) U
/-- the contract of a method at the arguments av and the state u -/
def xC {S : Type} (l : Launch) (D : va_G) (cl : List vw_C) (tys : List (ClassId × FieldType)) (Ev : (Nat → Prop) → State → Prop) (y : MethodName) (ws : List Cond) (rm : Room) (wd : S → va_W) (av : List Value) (u : S) (post : Option Value → S → Prop) (mc ms : Nat) : Prop := ∀ sz : Nat, Met l y ws rm (va_Pc av (xB D cl tys Ev wd u sz)) (xQ D cl wd (va_A (wd u) sz) post) mc ms (va_A (wd u) sz)
def xX (D : va_G) (cl : List vw_C) (tys : List (ClassId × FieldType)) (Ev : (Nat → Prop) → State → Prop) (own : String) (cc : ByteArray) (nL : Nat) (Ts : List Cond) (ret : Option FieldType) (p : Program) (s : State) (m : MethodId) (args : Array Value) (meth : Method) (c : Code) (A : Nat → Prop) : Prop :=
  p.tables.exec = Jvm.exec ∧ c.code = cc ∧ c.maxLocals = nL ∧ s.vm.findClass own = some m.cls ∧ (∀ w ∈ Ts, w.before args s = true) ∧ va_K D cl tys s ∧ Ev A s ∧ meth.locks = false ∧ meth.sig.returnType = ret ∧ ∀ q, s.heap.size ≤ q → A q
/-- the machine in a method, at pc, with the locals lv, the operands st and the world's state u, comes to an end with post -/
def RR {S : Type} (l : Launch) (D : va_G) (cl : List vw_C) (tys : List (ClassId × FieldType)) (Ev : (Nat → Prop) → State → Prop) (own : String) (cc : ByteArray) (nL : Nat) (Ts : List Cond) (rm : Room) (ret : Option FieldType) (wd : S → va_W) (post : Option Value → S → Prop) (mc ms kc ks : Nat) (pc : Nat) (lv : List (Nat × Value)) (st : List Value) (u : S) : Prop :=
  ∀ (p : Program) (e : Env) (s : State) (m : MethodId) (args : Array Value) (below : List Frame) (meth : Method) (c : Code) (A : Nat → Prop) (H : Heap) (locs : List Loc) (ls : Array Slot),
    xX D cl tys Ev own cc nL Ts ret p s m args meth c A → va_P D cl (wd u) H → va_D A (wd u) → va_S A s.heap H locs → lv_has ls nL lv →
    W p l e rm s m args below meth c H locs kc ks (MQ below (xQ D cl wd A post) args s mc ms A) (F0 m pc ls st)
variable {S : Type} {l : Launch} {D : va_G} {cl : List vw_C} {tys : List (ClassId × FieldType)} {Ev : (Nat → Prop) → State → Prop} {own : String} {cc : ByteArray} {nL : Nat} {Ts : List Cond} {rm : Room} {ret : Option FieldType} {wd : S → va_W} {post : Option Value → S → Prop} {mc ms kc ks : Nat} {pc : Nat} {lv lv' : List (Nat × Value)} {st : List Value} {u u' : S}
theorem x_lk {i : Nat} {v : Value} : ∀ {lv : List (Nat × Value)}, lv.lookup i = some v → (i, v) ∈ lv
  | [], h => by cases h
  | (j, w) :: r, h => by
    rw [List.lookup_cons] at h
    by_cases hj : i = j
    · subst hj
      simp at h
      subst h
      exact List.mem_cons_self
    · have hb : (i == j) = false := by simp [hj]
      rw [hb] at h
      exact List.mem_cons_of_mem _ (x_lk h)
theorem x_has {ls : Array Slot} {i : Nat} {v : Value} (h : lv_has ls nL lv) (hk : lv.lookup i = some v) : ls[i]? = some (.val v) := h.2.2 (i, v) (x_lk hk)

theorem x_iconst {n : Int} {v : Int32} (hd : decode cc pc = .ok (.iconst n, 1)) (hv : Int32.ofInt n = v) (kk : RR l D cl tys Ev own cc nL Ts rm ret wd post mc ms kc ks (pc + 1) lv (.int v :: st) u) : RR l D cl tys Ev own cc nL Ts rm ret wd post mc ms kc ks pc lv st u := by
  intro p e s m args below meth c A H locs ls hX hP hD hS hl
  exact lv_iconst hX.1 hX.2.1 hd hv (kk p e s m args below meth c A H locs ls hX hP hD hS hl)

theorem x_bipush {n : Int} {v : Int32} (hd : decode cc pc = .ok (.bipush n, 2)) (hv : (Int8.ofInt n).toInt32 = v) (kk : RR l D cl tys Ev own cc nL Ts rm ret wd post mc ms kc ks (pc + 2) lv (.int v :: st) u) : RR l D cl tys Ev own cc nL Ts rm ret wd post mc ms kc ks pc lv st u := by
  intro p e s m args below meth c A H locs ls hX hP hD hS hl
  exact lv_bipush hX.1 hX.2.1 hd hv (kk p e s m args below meth c A H locs ls hX hP hD hS hl)

theorem x_sipush {n : Int} {v : Int32} (hd : decode cc pc = .ok (.sipush n, 3)) (hv : (Int16.ofInt n).toInt32 = v) (kk : RR l D cl tys Ev own cc nL Ts rm ret wd post mc ms kc ks (pc + 3) lv (.int v :: st) u) : RR l D cl tys Ev own cc nL Ts rm ret wd post mc ms kc ks pc lv st u := by
  intro p e s m args below meth c A H locs ls hX hP hD hS hl
  exact lv_sipush hX.1 hX.2.1 hd hv (kk p e s m args below meth c A H locs ls hX hP hD hS hl)

theorem x_lconst {n : Fin 2} {v : Int64} (hd : decode cc pc = .ok (.lconst n, 1)) (hv : Int64.ofNat (n : Nat) = v) (kk : RR l D cl tys Ev own cc nL Ts rm ret wd post mc ms kc ks (pc + 1) lv (.long v :: st) u) : RR l D cl tys Ev own cc nL Ts rm ret wd post mc ms kc ks pc lv st u := by
  intro p e s m args below meth c A H locs ls hX hP hD hS hl
  exact lv_lconst hX.1 hX.2.1 hd hv (kk p e s m args below meth c A H locs ls hX hP hD hS hl)

theorem x_null (hd : decode cc pc = .ok (.aconst_null, 1)) (kk : RR l D cl tys Ev own cc nL Ts rm ret wd post mc ms kc ks (pc + 1) lv (.null :: st) u) : RR l D cl tys Ev own cc nL Ts rm ret wd post mc ms kc ks pc lv st u := by
  intro p e s m args below meth c A H locs ls hX hP hD hS hl
  exact lv_null hX.1 hX.2.1 hd (kk p e s m args below meth c A H locs ls hX hP hD hS hl)

theorem x_ldc2 {index : Nat} {v : Int64} (hc : Cond.constantLong own index v ∈ Ts) (hd : decode cc pc = .ok (.ldc2_w index, 3)) (kk : RR l D cl tys Ev own cc nL Ts rm ret wd post mc ms kc ks (pc + 3) lv (.long v :: st) u) : RR l D cl tys Ev own cc nL Ts rm ret wd post mc ms kc ks pc lv st u := by
  intro p e s m args below meth c A H locs ls hX hP hD hS hl
  exact lv_ldc2 hX.1 hX.2.1 hX.2.2.2.1 (hX.2.2.2.2.1 _ hc) hd (kk p e s m args below meth c A H locs ls hX hP hD hS hl)

theorem x_ldc {index : Nat} {v : Int32} (hc : Cond.constant own index v ∈ Ts) (hd : decode cc pc = .ok (.ldc index, 2)) (kk : RR l D cl tys Ev own cc nL Ts rm ret wd post mc ms kc ks (pc + 2) lv (.int v :: st) u) : RR l D cl tys Ev own cc nL Ts rm ret wd post mc ms kc ks pc lv st u := by
  intro p e s m args below meth c A H locs ls hX hP hD hS hl
  exact lv_ldc hX.1 hX.2.1 hX.2.2.2.1 (hX.2.2.2.2.1 _ hc) hd (kk p e s m args below meth c A H locs ls hX hP hD hS hl)

theorem x_iload_n {k : Fin 4} {x : Int32} (hd : decode cc pc = .ok (.iload_n k, 1)) (hk : lv.lookup (k : Nat) = some (.int x)) (kk : RR l D cl tys Ev own cc nL Ts rm ret wd post mc ms kc ks (pc + 1) lv (.int x :: st) u) : RR l D cl tys Ev own cc nL Ts rm ret wd post mc ms kc ks pc lv st u := by
  intro p e s m args below meth c A H locs ls hX hP hD hS hl
  exact lv_iload_n hX.1 hX.2.1 hd rfl (x_has hl hk) (kk p e s m args below meth c A H locs ls hX hP hD hS hl)

theorem x_iload {i : Nat} {x : Int32} (hd : decode cc pc = .ok (.iload i, 2)) (hk : lv.lookup i = some (.int x)) (kk : RR l D cl tys Ev own cc nL Ts rm ret wd post mc ms kc ks (pc + 2) lv (.int x :: st) u) : RR l D cl tys Ev own cc nL Ts rm ret wd post mc ms kc ks pc lv st u := by
  intro p e s m args below meth c A H locs ls hX hP hD hS hl
  exact lv_iload hX.1 hX.2.1 hd (x_has hl hk) (kk p e s m args below meth c A H locs ls hX hP hD hS hl)

theorem x_lload_n {k : Fin 4} {x : Int64} (hd : decode cc pc = .ok (.lload_n k, 1)) (hk : lv.lookup (k : Nat) = some (.long x)) (kk : RR l D cl tys Ev own cc nL Ts rm ret wd post mc ms kc ks (pc + 1) lv (.long x :: st) u) : RR l D cl tys Ev own cc nL Ts rm ret wd post mc ms kc ks pc lv st u := by
  intro p e s m args below meth c A H locs ls hX hP hD hS hl
  exact lv_lload_n hX.1 hX.2.1 hd rfl (x_has hl hk) (kk p e s m args below meth c A H locs ls hX hP hD hS hl)

theorem x_lload {i : Nat} {x : Int64} (hd : decode cc pc = .ok (.lload i, 2)) (hk : lv.lookup i = some (.long x)) (kk : RR l D cl tys Ev own cc nL Ts rm ret wd post mc ms kc ks (pc + 2) lv (.long x :: st) u) : RR l D cl tys Ev own cc nL Ts rm ret wd post mc ms kc ks pc lv st u := by
  intro p e s m args below meth c A H locs ls hX hP hD hS hl
  exact lv_lload hX.1 hX.2.1 hd (x_has hl hk) (kk p e s m args below meth c A H locs ls hX hP hD hS hl)

theorem x_aload_n {k : Fin 4} {x : Nat} (hd : decode cc pc = .ok (.aload_n k, 1)) (hk : lv.lookup (k : Nat) = some (.ref x)) (kk : RR l D cl tys Ev own cc nL Ts rm ret wd post mc ms kc ks (pc + 1) lv (.ref x :: st) u) : RR l D cl tys Ev own cc nL Ts rm ret wd post mc ms kc ks pc lv st u := by
  intro p e s m args below meth c A H locs ls hX hP hD hS hl
  exact lv_aload_n hX.1 hX.2.1 hd rfl (x_has hl hk) (kk p e s m args below meth c A H locs ls hX hP hD hS hl)

theorem x_aload {i : Nat} {x : Nat} (hd : decode cc pc = .ok (.aload i, 2)) (hk : lv.lookup i = some (.ref x)) (kk : RR l D cl tys Ev own cc nL Ts rm ret wd post mc ms kc ks (pc + 2) lv (.ref x :: st) u) : RR l D cl tys Ev own cc nL Ts rm ret wd post mc ms kc ks pc lv st u := by
  intro p e s m args below meth c A H locs ls hX hP hD hS hl
  exact lv_aload hX.1 hX.2.1 hd (x_has hl hk) (kk p e s m args below meth c A H locs ls hX hP hD hS hl)

theorem x_aload_nN {k : Fin 4} (hd : decode cc pc = .ok (.aload_n k, 1)) (hk : lv.lookup (k : Nat) = some .null) (kk : RR l D cl tys Ev own cc nL Ts rm ret wd post mc ms kc ks (pc + 1) lv (.null :: st) u) : RR l D cl tys Ev own cc nL Ts rm ret wd post mc ms kc ks pc lv st u := by
  intro p e s m args below meth c A H locs ls hX hP hD hS hl
  exact lv_aload_nN hX.1 hX.2.1 hd rfl (x_has hl hk) (kk p e s m args below meth c A H locs ls hX hP hD hS hl)

theorem x_aloadN {i : Nat} (hd : decode cc pc = .ok (.aload i, 2)) (hk : lv.lookup i = some .null) (kk : RR l D cl tys Ev own cc nL Ts rm ret wd post mc ms kc ks (pc + 2) lv (.null :: st) u) : RR l D cl tys Ev own cc nL Ts rm ret wd post mc ms kc ks pc lv st u := by
  intro p e s m args below meth c A H locs ls hX hP hD hS hl
  exact lv_aloadN hX.1 hX.2.1 hd (x_has hl hk) (kk p e s m args below meth c A H locs ls hX hP hD hS hl)

theorem x_istore_n {k : Fin 4} {x : Int32} (hd : decode cc pc = .ok (.istore_n k, 1)) (hn : (k : Nat) < nL) (hl' : ((k : Nat), Value.int x) :: lv.filter (fun q => !(q.1 == (k : Nat)) && !(q.1 + 1 == (k : Nat) && q.2.category == 2)) = lv') (kk : RR l D cl tys Ev own cc nL Ts rm ret wd post mc ms kc ks (pc + 1) lv' st u) : RR l D cl tys Ev own cc nL Ts rm ret wd post mc ms kc ks pc lv (Value.int x :: st) u := by
  intro p e s m args below meth c A H locs ls hX hP hD hS hl
  exact lv_istore_n hX.1 hX.2.1 hd rfl hl hn hl' (fun ls' hl2 => kk p e s m args below meth c A H locs ls' hX hP hD hS hl2)

theorem x_istore {i : Nat} {x : Int32} (hd : decode cc pc = .ok (.istore i, 2)) (hn : i < nL) (hl' : (i, Value.int x) :: lv.filter (fun q => !(q.1 == i) && !(q.1 + 1 == i && q.2.category == 2)) = lv') (kk : RR l D cl tys Ev own cc nL Ts rm ret wd post mc ms kc ks (pc + 2) lv' st u) : RR l D cl tys Ev own cc nL Ts rm ret wd post mc ms kc ks pc lv (Value.int x :: st) u := by
  intro p e s m args below meth c A H locs ls hX hP hD hS hl
  exact lv_istore hX.1 hX.2.1 hd hl hn hl' (fun ls' hl2 => kk p e s m args below meth c A H locs ls' hX hP hD hS hl2)

theorem x_lstore_n {k : Fin 4} {x : Int64} (hd : decode cc pc = .ok (.lstore_n k, 1)) (hn : (k : Nat) + 1 < nL) (hl' : ((k : Nat), Value.long x) :: lv.filter (fun q => !(q.1 == (k : Nat)) && (!(q.1 == (k : Nat) + 1) && !(q.1 + 1 == (k : Nat) && q.2.category == 2))) = lv') (kk : RR l D cl tys Ev own cc nL Ts rm ret wd post mc ms kc ks (pc + 1) lv' st u) : RR l D cl tys Ev own cc nL Ts rm ret wd post mc ms kc ks pc lv (Value.long x :: st) u := by
  intro p e s m args below meth c A H locs ls hX hP hD hS hl
  exact lv_lstore_n hX.1 hX.2.1 hd rfl hl hn hl' (fun ls' hl2 => kk p e s m args below meth c A H locs ls' hX hP hD hS hl2)

theorem x_lstore {i : Nat} {x : Int64} (hd : decode cc pc = .ok (.lstore i, 2)) (hn : i + 1 < nL) (hl' : (i, Value.long x) :: lv.filter (fun q => !(q.1 == i) && (!(q.1 == i + 1) && !(q.1 + 1 == i && q.2.category == 2))) = lv') (kk : RR l D cl tys Ev own cc nL Ts rm ret wd post mc ms kc ks (pc + 2) lv' st u) : RR l D cl tys Ev own cc nL Ts rm ret wd post mc ms kc ks pc lv (Value.long x :: st) u := by
  intro p e s m args below meth c A H locs ls hX hP hD hS hl
  exact lv_lstore hX.1 hX.2.1 hd hl hn hl' (fun ls' hl2 => kk p e s m args below meth c A H locs ls' hX hP hD hS hl2)

theorem x_astore_n {k : Fin 4} {x : Nat} (hd : decode cc pc = .ok (.astore_n k, 1)) (hn : (k : Nat) < nL) (hl' : ((k : Nat), Value.ref x) :: lv.filter (fun q => !(q.1 == (k : Nat)) && !(q.1 + 1 == (k : Nat) && q.2.category == 2)) = lv') (kk : RR l D cl tys Ev own cc nL Ts rm ret wd post mc ms kc ks (pc + 1) lv' st u) : RR l D cl tys Ev own cc nL Ts rm ret wd post mc ms kc ks pc lv (Value.ref x :: st) u := by
  intro p e s m args below meth c A H locs ls hX hP hD hS hl
  exact lv_astore_n hX.1 hX.2.1 hd rfl hl hn hl' (fun ls' hl2 => kk p e s m args below meth c A H locs ls' hX hP hD hS hl2)

theorem x_astore {i : Nat} {x : Nat} (hd : decode cc pc = .ok (.astore i, 2)) (hn : i < nL) (hl' : (i, Value.ref x) :: lv.filter (fun q => !(q.1 == i) && !(q.1 + 1 == i && q.2.category == 2)) = lv') (kk : RR l D cl tys Ev own cc nL Ts rm ret wd post mc ms kc ks (pc + 2) lv' st u) : RR l D cl tys Ev own cc nL Ts rm ret wd post mc ms kc ks pc lv (Value.ref x :: st) u := by
  intro p e s m args below meth c A H locs ls hX hP hD hS hl
  exact lv_astore hX.1 hX.2.1 hd hl hn hl' (fun ls' hl2 => kk p e s m args below meth c A H locs ls' hX hP hD hS hl2)

theorem x_astore_nN {k : Fin 4} (hd : decode cc pc = .ok (.astore_n k, 1)) (hn : (k : Nat) < nL) (hl' : ((k : Nat), Value.null) :: lv.filter (fun q => !(q.1 == (k : Nat)) && !(q.1 + 1 == (k : Nat) && q.2.category == 2)) = lv') (kk : RR l D cl tys Ev own cc nL Ts rm ret wd post mc ms kc ks (pc + 1) lv' st u) : RR l D cl tys Ev own cc nL Ts rm ret wd post mc ms kc ks pc lv (Value.null :: st) u := by
  intro p e s m args below meth c A H locs ls hX hP hD hS hl
  exact lv_astore_nN hX.1 hX.2.1 hd rfl hl hn hl' (fun ls' hl2 => kk p e s m args below meth c A H locs ls' hX hP hD hS hl2)

theorem x_astoreN {i : Nat} (hd : decode cc pc = .ok (.astore i, 2)) (hn : i < nL) (hl' : (i, Value.null) :: lv.filter (fun q => !(q.1 == i) && !(q.1 + 1 == i && q.2.category == 2)) = lv') (kk : RR l D cl tys Ev own cc nL Ts rm ret wd post mc ms kc ks (pc + 2) lv' st u) : RR l D cl tys Ev own cc nL Ts rm ret wd post mc ms kc ks pc lv (Value.null :: st) u := by
  intro p e s m args below meth c A H locs ls hX hP hD hS hl
  exact lv_astoreN hX.1 hX.2.1 hd hl hn hl' (fun ls' hl2 => kk p e s m args below meth c A H locs ls' hX hP hD hS hl2)

theorem x_iinc {i : Nat} {n : Int} {x v : Int32} (hd : decode cc pc = .ok (.iinc i n, 3)) (hk : lv.lookup i = some (.int x)) (hv : x + Int32.ofInt n = v) (hn : i < nL) (hl' : (i, Value.int v) :: lv.filter (fun q => !(q.1 == i) && !(q.1 + 1 == i && q.2.category == 2)) = lv') (kk : RR l D cl tys Ev own cc nL Ts rm ret wd post mc ms kc ks (pc + 3) lv' st u) : RR l D cl tys Ev own cc nL Ts rm ret wd post mc ms kc ks pc lv st u := by
  intro p e s m args below meth c A H locs ls hX hP hD hS hl
  obtain ⟨k, hkk⟩ := List.getElem?_of_mem (x_lk hk)
  exact lv_iinc hX.1 hX.2.1 hd hl hkk hv hn hl' (fun ls' hl2 => kk p e s m args below meth c A H locs ls' hX hP hD hS hl2)

theorem x_iadd {x y : Int32} (hd : decode cc pc = .ok (.iadd, 1)) (kk : RR l D cl tys Ev own cc nL Ts rm ret wd post mc ms kc ks (pc + 1) lv (.int (x + y) :: st) u) : RR l D cl tys Ev own cc nL Ts rm ret wd post mc ms kc ks pc lv (.int y :: .int x :: st) u := by
  intro p e s m args below meth c A H locs ls hX hP hD hS hl
  exact lv_iadd hX.1 hX.2.1 hd (kk p e s m args below meth c A H locs ls hX hP hD hS hl)

theorem x_isub {x y : Int32} (hd : decode cc pc = .ok (.isub, 1)) (kk : RR l D cl tys Ev own cc nL Ts rm ret wd post mc ms kc ks (pc + 1) lv (.int (x - y) :: st) u) : RR l D cl tys Ev own cc nL Ts rm ret wd post mc ms kc ks pc lv (.int y :: .int x :: st) u := by
  intro p e s m args below meth c A H locs ls hX hP hD hS hl
  exact lv_isub hX.1 hX.2.1 hd (kk p e s m args below meth c A H locs ls hX hP hD hS hl)

theorem x_imul {x y : Int32} (hd : decode cc pc = .ok (.imul, 1)) (kk : RR l D cl tys Ev own cc nL Ts rm ret wd post mc ms kc ks (pc + 1) lv (.int (x * y) :: st) u) : RR l D cl tys Ev own cc nL Ts rm ret wd post mc ms kc ks pc lv (.int y :: .int x :: st) u := by
  intro p e s m args below meth c A H locs ls hX hP hD hS hl
  exact lv_imul hX.1 hX.2.1 hd (kk p e s m args below meth c A H locs ls hX hP hD hS hl)

theorem x_iand {x y : Int32} (hd : decode cc pc = .ok (.iand, 1)) (kk : RR l D cl tys Ev own cc nL Ts rm ret wd post mc ms kc ks (pc + 1) lv (.int (x &&& y) :: st) u) : RR l D cl tys Ev own cc nL Ts rm ret wd post mc ms kc ks pc lv (.int y :: .int x :: st) u := by
  intro p e s m args below meth c A H locs ls hX hP hD hS hl
  exact lv_iand hX.1 hX.2.1 hd (kk p e s m args below meth c A H locs ls hX hP hD hS hl)

theorem x_ior {x y : Int32} (hd : decode cc pc = .ok (.ior, 1)) (kk : RR l D cl tys Ev own cc nL Ts rm ret wd post mc ms kc ks (pc + 1) lv (.int (x ||| y) :: st) u) : RR l D cl tys Ev own cc nL Ts rm ret wd post mc ms kc ks pc lv (.int y :: .int x :: st) u := by
  intro p e s m args below meth c A H locs ls hX hP hD hS hl
  exact lv_ior hX.1 hX.2.1 hd (kk p e s m args below meth c A H locs ls hX hP hD hS hl)

theorem x_ixor {x y : Int32} (hd : decode cc pc = .ok (.ixor, 1)) (kk : RR l D cl tys Ev own cc nL Ts rm ret wd post mc ms kc ks (pc + 1) lv (.int (x ^^^ y) :: st) u) : RR l D cl tys Ev own cc nL Ts rm ret wd post mc ms kc ks pc lv (.int y :: .int x :: st) u := by
  intro p e s m args below meth c A H locs ls hX hP hD hS hl
  exact lv_ixor hX.1 hX.2.1 hd (kk p e s m args below meth c A H locs ls hX hP hD hS hl)

theorem x_idiv {x y : Int32} (hd : decode cc pc = .ok (.idiv, 1)) (hne : ¬ y = 0) (kk : RR l D cl tys Ev own cc nL Ts rm ret wd post mc ms kc ks (pc + 1) lv (.int (x / y) :: st) u) : RR l D cl tys Ev own cc nL Ts rm ret wd post mc ms kc ks pc lv (.int y :: .int x :: st) u := by
  intro p e s m args below meth c A H locs ls hX hP hD hS hl
  exact lv_idiv hX.1 hX.2.1 hd hne (kk p e s m args below meth c A H locs ls hX hP hD hS hl)

theorem x_irem {x y : Int32} (hd : decode cc pc = .ok (.irem, 1)) (hne : ¬ y = 0) (kk : RR l D cl tys Ev own cc nL Ts rm ret wd post mc ms kc ks (pc + 1) lv (.int (x - x / y * y) :: st) u) : RR l D cl tys Ev own cc nL Ts rm ret wd post mc ms kc ks pc lv (.int y :: .int x :: st) u := by
  intro p e s m args below meth c A H locs ls hX hP hD hS hl
  exact lv_irem hX.1 hX.2.1 hd hne (kk p e s m args below meth c A H locs ls hX hP hD hS hl)

theorem x_ladd {x y : Int64} (hd : decode cc pc = .ok (.ladd, 1)) (kk : RR l D cl tys Ev own cc nL Ts rm ret wd post mc ms kc ks (pc + 1) lv (.long (x + y) :: st) u) : RR l D cl tys Ev own cc nL Ts rm ret wd post mc ms kc ks pc lv (.long y :: .long x :: st) u := by
  intro p e s m args below meth c A H locs ls hX hP hD hS hl
  exact lv_ladd hX.1 hX.2.1 hd (kk p e s m args below meth c A H locs ls hX hP hD hS hl)

theorem x_lor {x y : Int64} (hd : decode cc pc = .ok (.lor, 1)) (kk : RR l D cl tys Ev own cc nL Ts rm ret wd post mc ms kc ks (pc + 1) lv (.long (x ||| y) :: st) u) : RR l D cl tys Ev own cc nL Ts rm ret wd post mc ms kc ks pc lv (.long y :: .long x :: st) u := by
  intro p e s m args below meth c A H locs ls hX hP hD hS hl
  exact lv_lor hX.1 hX.2.1 hd (kk p e s m args below meth c A H locs ls hX hP hD hS hl)

theorem x_land {x y : Int64} (hd : decode cc pc = .ok (.land, 1)) (kk : RR l D cl tys Ev own cc nL Ts rm ret wd post mc ms kc ks (pc + 1) lv (.long (x &&& y) :: st) u) : RR l D cl tys Ev own cc nL Ts rm ret wd post mc ms kc ks pc lv (.long y :: .long x :: st) u := by
  intro p e s m args below meth c A H locs ls hX hP hD hS hl
  exact lv_land hX.1 hX.2.1 hd (kk p e s m args below meth c A H locs ls hX hP hD hS hl)

theorem x_i2l {x : Int32} (hd : decode cc pc = .ok (.i2l, 1)) (kk : RR l D cl tys Ev own cc nL Ts rm ret wd post mc ms kc ks (pc + 1) lv (.long x.toInt64 :: st) u) : RR l D cl tys Ev own cc nL Ts rm ret wd post mc ms kc ks pc lv (.int x :: st) u := by
  intro p e s m args below meth c A H locs ls hX hP hD hS hl
  exact lv_i2l hX.1 hX.2.1 hd rfl (kk p e s m args below meth c A H locs ls hX hP hD hS hl)

theorem x_l2i {x : Int64} (hd : decode cc pc = .ok (.l2i, 1)) (kk : RR l D cl tys Ev own cc nL Ts rm ret wd post mc ms kc ks (pc + 1) lv (.int x.toInt32 :: st) u) : RR l D cl tys Ev own cc nL Ts rm ret wd post mc ms kc ks pc lv (.long x :: st) u := by
  intro p e s m args below meth c A H locs ls hX hP hD hS hl
  exact lv_l2i hX.1 hX.2.1 hd rfl (kk p e s m args below meth c A H locs ls hX hP hD hS hl)

theorem x_i2c {x : Int32} (hd : decode cc pc = .ok (.i2c, 1)) (kk : RR l D cl tys Ev own cc nL Ts rm ret wd post mc ms kc ks (pc + 1) lv (.int (x.toUInt32 % 65536).toInt32 :: st) u) : RR l D cl tys Ev own cc nL Ts rm ret wd post mc ms kc ks pc lv (.int x :: st) u := by
  intro p e s m args below meth c A H locs ls hX hP hD hS hl
  exact lv_i2c hX.1 hX.2.1 hd rfl (kk p e s m args below meth c A H locs ls hX hP hD hS hl)

theorem x_lushr {x : Int64} {y : Int32} (hd : decode cc pc = .ok (.lushr, 1)) (kk : RR l D cl tys Ev own cc nL Ts rm ret wd post mc ms kc ks (pc + 1) lv (.long (x.toUInt64 >>> (y.toInt64.toUInt64 &&& Int64.toUInt64 63)).toInt64 :: st) u) : RR l D cl tys Ev own cc nL Ts rm ret wd post mc ms kc ks pc lv (.int y :: .long x :: st) u := by
  intro p e s m args below meth c A H locs ls hX hP hD hS hl
  exact lv_lushr hX.1 hX.2.1 hd rfl (kk p e s m args below meth c A H locs ls hX hP hD hS hl)

theorem x_lshl {x : Int64} {y : Int32} (hd : decode cc pc = .ok (.lshl, 1)) (kk : RR l D cl tys Ev own cc nL Ts rm ret wd post mc ms kc ks (pc + 1) lv (.long (x <<< (y.toInt64 &&& 63)) :: st) u) : RR l D cl tys Ev own cc nL Ts rm ret wd post mc ms kc ks pc lv (.int y :: .long x :: st) u := by
  intro p e s m args below meth c A H locs ls hX hP hD hS hl
  exact lv_lshl hX.1 hX.2.1 hd rfl (kk p e s m args below meth c A H locs ls hX hP hD hS hl)

theorem x_lshr {x : Int64} {y : Int32} (hd : decode cc pc = .ok (.lshr, 1)) (kk : RR l D cl tys Ev own cc nL Ts rm ret wd post mc ms kc ks (pc + 1) lv (.long (x >>> (y.toInt64 &&& 63)) :: st) u) : RR l D cl tys Ev own cc nL Ts rm ret wd post mc ms kc ks pc lv (.int y :: .long x :: st) u := by
  intro p e s m args below meth c A H locs ls hX hP hD hS hl
  exact lv_lshr hX.1 hX.2.1 hd rfl (kk p e s m args below meth c A H locs ls hX hP hD hS hl)

theorem x_ishr {x y : Int32} (hd : decode cc pc = .ok (.ishr, 1)) (kk : RR l D cl tys Ev own cc nL Ts rm ret wd post mc ms kc ks (pc + 1) lv (.int (x >>> (y &&& 31)) :: st) u) : RR l D cl tys Ev own cc nL Ts rm ret wd post mc ms kc ks pc lv (.int y :: .int x :: st) u := by
  intro p e s m args below meth c A H locs ls hX hP hD hS hl
  exact lv_ishr hX.1 hX.2.1 hd (kk p e s m args below meth c A H locs ls hX hP hD hS hl)

theorem x_dup {a : Value} (hd : decode cc pc = .ok (.dup, 1)) (ha : a.category = 1) (kk : RR l D cl tys Ev own cc nL Ts rm ret wd post mc ms kc ks (pc + 1) lv (a :: a :: st) u) : RR l D cl tys Ev own cc nL Ts rm ret wd post mc ms kc ks pc lv (a :: st) u := by
  intro p e s m args below meth c A H locs ls hX hP hD hS hl
  exact lv_dup hX.1 hX.2.1 hd ha (kk p e s m args below meth c A H locs ls hX hP hD hS hl)

theorem x_pop {a : Value} (hd : decode cc pc = .ok (.pop, 1)) (ha : a.category = 1) (kk : RR l D cl tys Ev own cc nL Ts rm ret wd post mc ms kc ks (pc + 1) lv st u) : RR l D cl tys Ev own cc nL Ts rm ret wd post mc ms kc ks pc lv (a :: st) u := by
  intro p e s m args below meth c A H locs ls hX hP hD hS hl
  exact lv_pop hX.1 hX.2.1 hd ha (kk p e s m args below meth c A H locs ls hX hP hD hS hl)

theorem x_dup_x1 {a b : Value} (hd : decode cc pc = .ok (.dup_x1, 1)) (ha : a.category = 1) (hb' : b.category = 1) (kk : RR l D cl tys Ev own cc nL Ts rm ret wd post mc ms kc ks (pc + 1) lv (a :: b :: a :: st) u) : RR l D cl tys Ev own cc nL Ts rm ret wd post mc ms kc ks pc lv (a :: b :: st) u := by
  intro p e s m args below meth c A H locs ls hX hP hD hS hl
  exact lv_dup_x1 hX.1 hX.2.1 hd ha hb' (kk p e s m args below meth c A H locs ls hX hP hD hS hl)

theorem x_dup2 {a b : Value} (hd : decode cc pc = .ok (.dup2, 1)) (ha : a.category = 1) (hb' : b.category = 1) (kk : RR l D cl tys Ev own cc nL Ts rm ret wd post mc ms kc ks (pc + 1) lv (a :: b :: a :: b :: st) u) : RR l D cl tys Ev own cc nL Ts rm ret wd post mc ms kc ks pc lv (a :: b :: st) u := by
  intro p e s m args below meth c A H locs ls hX hP hD hS hl
  exact lv_dup2_11 hX.1 hX.2.1 hd ha hb' (kk p e s m args below meth c A H locs ls hX hP hD hS hl)

theorem x_if_eq {x : Int32} {off : Int} {tgt : Nat} (hd : decode cc pc = .ok (.ifCond .eq off, 3)) (ht : (pc : Int) + off = (tgt : Int)) (kt : x = 0 → RR l D cl tys Ev own cc nL Ts rm ret wd post mc ms kc ks tgt lv st u) (kf : ¬ x = 0 → RR l D cl tys Ev own cc nL Ts rm ret wd post mc ms kc ks (pc + 3) lv st u) : RR l D cl tys Ev own cc nL Ts rm ret wd post mc ms kc ks pc lv (.int x :: st) u := by
  intro p e s m args below meth c A H locs ls hX hP hD hS hl
  exact lv_if_eq hX.1 hX.2.1 hd ht (fun h => kt h p e s m args below meth c A H locs ls hX hP hD hS hl) (fun h => kf h p e s m args below meth c A H locs ls hX hP hD hS hl)

theorem x_icmp_eq {x y : Int32} {off : Int} {tgt : Nat} (hd : decode cc pc = .ok (.if_icmp .eq off, 3)) (ht : (pc : Int) + off = (tgt : Int)) (kt : x = y → RR l D cl tys Ev own cc nL Ts rm ret wd post mc ms kc ks tgt lv st u) (kf : ¬ x = y → RR l D cl tys Ev own cc nL Ts rm ret wd post mc ms kc ks (pc + 3) lv st u) : RR l D cl tys Ev own cc nL Ts rm ret wd post mc ms kc ks pc lv (.int y :: .int x :: st) u := by
  intro p e s m args below meth c A H locs ls hX hP hD hS hl
  exact lv_icmp_eq hX.1 hX.2.1 hd ht (fun h => kt h p e s m args below meth c A H locs ls hX hP hD hS hl) (fun h => kf h p e s m args below meth c A H locs ls hX hP hD hS hl)

theorem x_if_ne {x : Int32} {off : Int} {tgt : Nat} (hd : decode cc pc = .ok (.ifCond .ne off, 3)) (ht : (pc : Int) + off = (tgt : Int)) (kt : ¬ x = 0 → RR l D cl tys Ev own cc nL Ts rm ret wd post mc ms kc ks tgt lv st u) (kf : x = 0 → RR l D cl tys Ev own cc nL Ts rm ret wd post mc ms kc ks (pc + 3) lv st u) : RR l D cl tys Ev own cc nL Ts rm ret wd post mc ms kc ks pc lv (.int x :: st) u := by
  intro p e s m args below meth c A H locs ls hX hP hD hS hl
  exact lv_if_ne hX.1 hX.2.1 hd ht (fun h => kt h p e s m args below meth c A H locs ls hX hP hD hS hl) (fun h => kf h p e s m args below meth c A H locs ls hX hP hD hS hl)

theorem x_icmp_ne {x y : Int32} {off : Int} {tgt : Nat} (hd : decode cc pc = .ok (.if_icmp .ne off, 3)) (ht : (pc : Int) + off = (tgt : Int)) (kt : ¬ x = y → RR l D cl tys Ev own cc nL Ts rm ret wd post mc ms kc ks tgt lv st u) (kf : x = y → RR l D cl tys Ev own cc nL Ts rm ret wd post mc ms kc ks (pc + 3) lv st u) : RR l D cl tys Ev own cc nL Ts rm ret wd post mc ms kc ks pc lv (.int y :: .int x :: st) u := by
  intro p e s m args below meth c A H locs ls hX hP hD hS hl
  exact lv_icmp_ne hX.1 hX.2.1 hd ht (fun h => kt h p e s m args below meth c A H locs ls hX hP hD hS hl) (fun h => kf h p e s m args below meth c A H locs ls hX hP hD hS hl)

theorem x_if_lt {x : Int32} {off : Int} {tgt : Nat} (hd : decode cc pc = .ok (.ifCond .lt off, 3)) (ht : (pc : Int) + off = (tgt : Int)) (kt : x < 0 → RR l D cl tys Ev own cc nL Ts rm ret wd post mc ms kc ks tgt lv st u) (kf : ¬ x < 0 → RR l D cl tys Ev own cc nL Ts rm ret wd post mc ms kc ks (pc + 3) lv st u) : RR l D cl tys Ev own cc nL Ts rm ret wd post mc ms kc ks pc lv (.int x :: st) u := by
  intro p e s m args below meth c A H locs ls hX hP hD hS hl
  exact lv_if_lt hX.1 hX.2.1 hd ht (fun h => kt h p e s m args below meth c A H locs ls hX hP hD hS hl) (fun h => kf h p e s m args below meth c A H locs ls hX hP hD hS hl)

theorem x_icmp_lt {x y : Int32} {off : Int} {tgt : Nat} (hd : decode cc pc = .ok (.if_icmp .lt off, 3)) (ht : (pc : Int) + off = (tgt : Int)) (kt : x < y → RR l D cl tys Ev own cc nL Ts rm ret wd post mc ms kc ks tgt lv st u) (kf : ¬ x < y → RR l D cl tys Ev own cc nL Ts rm ret wd post mc ms kc ks (pc + 3) lv st u) : RR l D cl tys Ev own cc nL Ts rm ret wd post mc ms kc ks pc lv (.int y :: .int x :: st) u := by
  intro p e s m args below meth c A H locs ls hX hP hD hS hl
  exact lv_icmp_lt hX.1 hX.2.1 hd ht (fun h => kt h p e s m args below meth c A H locs ls hX hP hD hS hl) (fun h => kf h p e s m args below meth c A H locs ls hX hP hD hS hl)

theorem x_if_ge {x : Int32} {off : Int} {tgt : Nat} (hd : decode cc pc = .ok (.ifCond .ge off, 3)) (ht : (pc : Int) + off = (tgt : Int)) (kt : 0 ≤ x → RR l D cl tys Ev own cc nL Ts rm ret wd post mc ms kc ks tgt lv st u) (kf : ¬ 0 ≤ x → RR l D cl tys Ev own cc nL Ts rm ret wd post mc ms kc ks (pc + 3) lv st u) : RR l D cl tys Ev own cc nL Ts rm ret wd post mc ms kc ks pc lv (.int x :: st) u := by
  intro p e s m args below meth c A H locs ls hX hP hD hS hl
  exact lv_if_ge hX.1 hX.2.1 hd ht (fun h => kt h p e s m args below meth c A H locs ls hX hP hD hS hl) (fun h => kf h p e s m args below meth c A H locs ls hX hP hD hS hl)

theorem x_icmp_ge {x y : Int32} {off : Int} {tgt : Nat} (hd : decode cc pc = .ok (.if_icmp .ge off, 3)) (ht : (pc : Int) + off = (tgt : Int)) (kt : y ≤ x → RR l D cl tys Ev own cc nL Ts rm ret wd post mc ms kc ks tgt lv st u) (kf : ¬ y ≤ x → RR l D cl tys Ev own cc nL Ts rm ret wd post mc ms kc ks (pc + 3) lv st u) : RR l D cl tys Ev own cc nL Ts rm ret wd post mc ms kc ks pc lv (.int y :: .int x :: st) u := by
  intro p e s m args below meth c A H locs ls hX hP hD hS hl
  exact lv_icmp_ge hX.1 hX.2.1 hd ht (fun h => kt h p e s m args below meth c A H locs ls hX hP hD hS hl) (fun h => kf h p e s m args below meth c A H locs ls hX hP hD hS hl)

theorem x_if_gt {x : Int32} {off : Int} {tgt : Nat} (hd : decode cc pc = .ok (.ifCond .gt off, 3)) (ht : (pc : Int) + off = (tgt : Int)) (kt : 0 < x → RR l D cl tys Ev own cc nL Ts rm ret wd post mc ms kc ks tgt lv st u) (kf : ¬ 0 < x → RR l D cl tys Ev own cc nL Ts rm ret wd post mc ms kc ks (pc + 3) lv st u) : RR l D cl tys Ev own cc nL Ts rm ret wd post mc ms kc ks pc lv (.int x :: st) u := by
  intro p e s m args below meth c A H locs ls hX hP hD hS hl
  exact lv_if_gt hX.1 hX.2.1 hd ht (fun h => kt h p e s m args below meth c A H locs ls hX hP hD hS hl) (fun h => kf h p e s m args below meth c A H locs ls hX hP hD hS hl)

theorem x_icmp_gt {x y : Int32} {off : Int} {tgt : Nat} (hd : decode cc pc = .ok (.if_icmp .gt off, 3)) (ht : (pc : Int) + off = (tgt : Int)) (kt : y < x → RR l D cl tys Ev own cc nL Ts rm ret wd post mc ms kc ks tgt lv st u) (kf : ¬ y < x → RR l D cl tys Ev own cc nL Ts rm ret wd post mc ms kc ks (pc + 3) lv st u) : RR l D cl tys Ev own cc nL Ts rm ret wd post mc ms kc ks pc lv (.int y :: .int x :: st) u := by
  intro p e s m args below meth c A H locs ls hX hP hD hS hl
  exact lv_icmp_gt hX.1 hX.2.1 hd ht (fun h => kt h p e s m args below meth c A H locs ls hX hP hD hS hl) (fun h => kf h p e s m args below meth c A H locs ls hX hP hD hS hl)

theorem x_if_le {x : Int32} {off : Int} {tgt : Nat} (hd : decode cc pc = .ok (.ifCond .le off, 3)) (ht : (pc : Int) + off = (tgt : Int)) (kt : x ≤ 0 → RR l D cl tys Ev own cc nL Ts rm ret wd post mc ms kc ks tgt lv st u) (kf : ¬ x ≤ 0 → RR l D cl tys Ev own cc nL Ts rm ret wd post mc ms kc ks (pc + 3) lv st u) : RR l D cl tys Ev own cc nL Ts rm ret wd post mc ms kc ks pc lv (.int x :: st) u := by
  intro p e s m args below meth c A H locs ls hX hP hD hS hl
  exact lv_if_le hX.1 hX.2.1 hd ht (fun h => kt h p e s m args below meth c A H locs ls hX hP hD hS hl) (fun h => kf h p e s m args below meth c A H locs ls hX hP hD hS hl)

theorem x_icmp_le {x y : Int32} {off : Int} {tgt : Nat} (hd : decode cc pc = .ok (.if_icmp .le off, 3)) (ht : (pc : Int) + off = (tgt : Int)) (kt : x ≤ y → RR l D cl tys Ev own cc nL Ts rm ret wd post mc ms kc ks tgt lv st u) (kf : ¬ x ≤ y → RR l D cl tys Ev own cc nL Ts rm ret wd post mc ms kc ks (pc + 3) lv st u) : RR l D cl tys Ev own cc nL Ts rm ret wd post mc ms kc ks pc lv (.int y :: .int x :: st) u := by
  intro p e s m args below meth c A H locs ls hX hP hD hS hl
  exact lv_icmp_le hX.1 hX.2.1 hd ht (fun h => kt h p e s m args below meth c A H locs ls hX hP hD hS hl) (fun h => kf h p e s m args below meth c A H locs ls hX hP hD hS hl)

theorem x_goto {off : Int} {tgt : Nat} (hd : decode cc pc = .ok (.goto off, 3)) (ht : (pc : Int) + off = (tgt : Int)) (kk : RR l D cl tys Ev own cc nL Ts rm ret wd post mc ms kc ks tgt lv st u) : RR l D cl tys Ev own cc nL Ts rm ret wd post mc ms kc ks pc lv st u := by
  intro p e s m args below meth c A H locs ls hX hP hD hS hl
  exact lv_goto hX.1 hX.2.1 hd ht (kk p e s m args below meth c A H locs ls hX hP hD hS hl)

theorem x_ifnullN {off : Int} {tgt : Nat} (hd : decode cc pc = .ok (.ifnull off, 3)) (ht : (pc : Int) + off = (tgt : Int)) (kk : RR l D cl tys Ev own cc nL Ts rm ret wd post mc ms kc ks tgt lv st u) : RR l D cl tys Ev own cc nL Ts rm ret wd post mc ms kc ks pc lv (.null :: st) u := by
  intro p e s m args below meth c A H locs ls hX hP hD hS hl
  exact lv_ifnullN hX.1 hX.2.1 hd ht (kk p e s m args below meth c A H locs ls hX hP hD hS hl)

theorem x_ifnull {a : Nat} {off : Int} (hd : decode cc pc = .ok (.ifnull off, 3)) (kk : RR l D cl tys Ev own cc nL Ts rm ret wd post mc ms kc ks (pc + 3) lv st u) : RR l D cl tys Ev own cc nL Ts rm ret wd post mc ms kc ks pc lv (.ref a :: st) u := by
  intro p e s m args below meth c A H locs ls hX hP hD hS hl
  exact lv_ifnull hX.1 hX.2.1 hd (kk p e s m args below meth c A H locs ls hX hP hD hS hl)

theorem x_ifnonnull {a : Nat} {off : Int} {tgt : Nat} (hd : decode cc pc = .ok (.ifnonnull off, 3)) (ht : (pc : Int) + off = (tgt : Int)) (kk : RR l D cl tys Ev own cc nL Ts rm ret wd post mc ms kc ks tgt lv st u) : RR l D cl tys Ev own cc nL Ts rm ret wd post mc ms kc ks pc lv (.ref a :: st) u := by
  intro p e s m args below meth c A H locs ls hX hP hD hS hl
  exact lv_ifnonnull hX.1 hX.2.1 hd ht (kk p e s m args below meth c A H locs ls hX hP hD hS hl)

theorem x_ifnonnullN {off : Int} (hd : decode cc pc = .ok (.ifnonnull off, 3)) (kk : RR l D cl tys Ev own cc nL Ts rm ret wd post mc ms kc ks (pc + 3) lv st u) : RR l D cl tys Ev own cc nL Ts rm ret wd post mc ms kc ks pc lv (.null :: st) u := by
  intro p e s m args below meth c A H locs ls hX hP hD hS hl
  exact lv_ifnonnullN hX.1 hX.2.1 hd (kk p e s m args below meth c A H locs ls hX hP hD hS hl)

theorem x_lcmp {x y : Int64} (hd : decode cc pc = .ok (.lcmp, 1)) (kk : RR l D cl tys Ev own cc nL Ts rm ret wd post mc ms kc ks (pc + 1) lv (.int (lg_cmp x y) :: st) u) : RR l D cl tys Ev own cc nL Ts rm ret wd post mc ms kc ks pc lv (.long y :: .long x :: st) u := by
  intro p e s m args below meth c A H locs ls hX hP hD hS hl
  exact W.lcmp hX.1 hX.2.1 hd (kk p e s m args below meth c A H locs ls hX hP hD hS hl)

theorem x_tableOut {dflt lo hi : Int} {offs : Array Int} {len : Nat} {x : Int32} {tgt : Nat} (hd : decode cc pc = .ok (.tableswitch dflt lo hi offs, len)) (h : x.toInt < lo ∨ hi < x.toInt) (ht : (pc : Int) + dflt = (tgt : Int)) (kk : RR l D cl tys Ev own cc nL Ts rm ret wd post mc ms kc ks tgt lv st u) : RR l D cl tys Ev own cc nL Ts rm ret wd post mc ms kc ks pc lv (.int x :: st) u := by
  intro p e s m args below meth c A H locs ls hX hP hD hS hl
  exact lv_tableOut hX.1 hX.2.1 hd h ht (kk p e s m args below meth c A H locs ls hX hP hD hS hl)

theorem x_tableIn {dflt lo hi : Int} {offs : Array Int} {len : Nat} {x : Int32} {off : Int} {tgt : Nat} (hd : decode cc pc = .ok (.tableswitch dflt lo hi offs, len)) (h1 : ¬ x.toInt < lo) (h2 : ¬ hi < x.toInt) (ho : offs[(x.toInt - lo).toNat]? = some off) (ht : (pc : Int) + off = (tgt : Int)) (kk : RR l D cl tys Ev own cc nL Ts rm ret wd post mc ms kc ks tgt lv st u) : RR l D cl tys Ev own cc nL Ts rm ret wd post mc ms kc ks pc lv (.int x :: st) u := by
  intro p e s m args below meth c A H locs ls hX hP hD hS hl
  exact lv_tableIn hX.1 hX.2.1 hd h1 h2 ho ht (kk p e s m args below meth c A H locs ls hX hP hD hS hl)

theorem x_lookup {dflt : Int} {ps : Array (Int × Int)} {len : Nat} {x : Int32} {off : Int} {tgt : Nat} (hd : decode cc pc = .ok (.lookupswitch dflt ps, len)) (hp : (ps.toList.zip (ps.toList.drop 1)).all (fun (a, next) => a.1 < next.1) = true) (ho : Op.lookupswitch.offset ps.toList dflt x.toInt = off) (ht : (pc : Int) + off = (tgt : Int)) (kk : RR l D cl tys Ev own cc nL Ts rm ret wd post mc ms kc ks tgt lv st u) : RR l D cl tys Ev own cc nL Ts rm ret wd post mc ms kc ks pc lv (.int x :: st) u := by
  intro p e s m args below meth c A H locs ls hX hP hD hS hl
  exact lv_lookup hX.1 hX.2.1 hd hp ho ht (kk p e s m args below meth c A H locs ls hX hP hD hS hl)

theorem x_sub (js : List Nat) (h : lv_pick lv js = lv') (kk : RR l D cl tys Ev own cc nL Ts rm ret wd post mc ms kc ks pc lv' st u) : RR l D cl tys Ev own cc nL Ts rm ret wd post mc ms kc ks pc lv st u := by
  intro p e s m args below meth c A H locs ls hX hP hD hS hl
  exact kk p e s m args below meth c A H locs ls hX hP hD hS (lv_sub hl js h)

theorem x_iret {x : Int32} (hd : decode cc pc = .ok (.ireturn, 1)) (kk : post (some (.int x)) u) (hc : kc ≤ mc := by omega) (hs : ks ≤ ms := by omega) : RR l D cl tys Ev own cc nL Ts rm (some .int) wd post mc ms kc ks pc lv [.int x] u := by
  intro p e s m args below meth c A H locs ls hX hP hD hS hl
  obtain ⟨hx, hb, -, -, -, -, -, hk, hr, -⟩ := hX
  refine W.widen (k := mc) (n := ms) hc hs ?_
  exact W.iret hx hb hr (fun t ht hW => ⟨⟨_, u, rfl, kk, by rw [ht]; exact hP, hD⟩, hS.F ht⟩) hS.2.2 hd hk

theorem x_zret {x : Int32} {ty : FieldType} (hn : narrow ty (.int x) = .int x) (hd : decode cc pc = .ok (.ireturn, 1)) (kk : post (some (.int x)) u) (hc : kc ≤ mc := by omega) (hs : ks ≤ ms := by omega) : RR l D cl tys Ev own cc nL Ts rm (some ty) wd post mc ms kc ks pc lv [.int x] u := by
  intro p e s m args below meth c A H locs ls hX hP hD hS hl
  obtain ⟨hx, hb, -, -, -, -, -, hk, hr, -⟩ := hX
  refine W.widen (k := mc) (n := ms) hc hs ?_
  exact W.zret hx hb hr hn (fun t ht hW => ⟨⟨_, u, rfl, kk, by rw [ht]; exact hP, hD⟩, hS.F ht⟩) hS.2.2 hd hk

theorem x_lret {x : Int64} (hd : decode cc pc = .ok (.lreturn, 1)) (kk : post (some (.long x)) u) (hc : kc ≤ mc := by omega) (hs : ks ≤ ms := by omega) : RR l D cl tys Ev own cc nL Ts rm (some .long) wd post mc ms kc ks pc lv [.long x] u := by
  intro p e s m args below meth c A H locs ls hX hP hD hS hl
  obtain ⟨hx, hb, -, -, -, -, -, hk, hr, -⟩ := hX
  refine W.widen (k := mc) (n := ms) hc hs ?_
  exact W.lret hx hb hr (fun t ht hW => ⟨⟨_, u, rfl, kk, by rw [ht]; exact hP, hD⟩, hS.F ht⟩) hS.2.2 hd hk

theorem x_vret (hd : decode cc pc = .ok (.return_, 1)) (kk : post none u) (hc : kc ≤ mc := by omega) (hs : ks ≤ ms := by omega) : RR l D cl tys Ev own cc nL Ts rm none wd post mc ms kc ks pc lv [] u := by
  intro p e s m args below meth c A H locs ls hX hP hD hS hl
  obtain ⟨hx, hb, -, -, -, -, -, hk, hr, -⟩ := hX
  refine W.widen (k := mc) (n := ms) hc hs ?_
  exact W.vret hx hb hr (fun t ht hW => ⟨⟨_, u, rfl, kk, by rw [ht]; exact hP, hD⟩, hS.F ht⟩) hS.2.2 hd hk

theorem x_aret {v : Value} {rt : FieldType} (hrt : (∃ n, rt = .object n) ∨ ∃ t, rt = .array t) (hv : v = .null ∨ ∃ a, v = .ref a) (hd : decode cc pc = .ok (.areturn, 1)) (kk : post (some v) u) (hc : kc ≤ mc := by omega) (hs : ks ≤ ms := by omega) : RR l D cl tys Ev own cc nL Ts rm (some rt) wd post mc ms kc ks pc lv [v] u := by
  intro p e s m args below meth c A H locs ls hX hP hD hS hl
  obtain ⟨hx, hb, -, -, -, -, -, hk, hr, -⟩ := hX
  refine W.widen (k := mc) (n := ms) hc hs ?_
  exact W.aret hx hb hr hrt hv (fun t ht hW => ⟨⟨_, u, rfl, kk, by rw [ht]; exact hP, hD⟩, hS.F ht⟩) hS.2.2 hd hk

/-- what an instruction's field is: field k of the class ci -/
def xF (cl : List vw_C) (Ts : List Cond) (own : String) (index ci k : Nat) : Prop := ∃ (C : String) (T : u_T) (N : Nat) (ref : String), (∀ w ∈ u_ws C T N, w ∈ Ts) ∧ cl[ci]? = some (C, T, N) ∧ k < N ∧ Cond.fieldLink own index ref (T k).2.1 (T k).2.2.1 ∈ Ts ∧ (ref = (T k).1 ∨ Cond.sameField ref (T k).1 (T k).2.1 (T k).2.2.1 ∈ Ts)
/-- a field that may be written: its type -/
def xFw (cl : List vw_C) (ci k : Nat) (ty : FieldType) : Prop := ∃ (C : String) (T : u_T) (N : Nat) (ty0 : Nat → FieldType), cl[ci]? = some (C, T, N) ∧ (∀ k, k < N → parseFieldDescriptor (T k).2.2.1 = some (ty0 k)) ∧ (∀ a, a < N → ∀ b, b < N → a ≠ b → (T a).2.1 ≠ (T b).2.1) ∧ (T k).2.2.2 = false ∧ parseFieldDescriptor (T k).2.2.1 = some ty
theorem x_get {index ci k q0 a : Nat} {fs : List Value} {v : Value} (F : xF cl Ts own index ci k) (he : (wd u)[q0]? = some (a, .inr (ci, fs))) (hv : fs[k]? = some v) (hd : decode cc pc = .ok (.getfield index, 3)) (kk : RR l D cl tys Ev own cc nL Ts rm ret wd post mc ms kc ks (pc + 3) lv (v :: st) u) : RR l D cl tys Ev own cc nL Ts rm ret wd post mc ms kc ks pc lv (.ref a :: st) u := by
  intro p e s m args below meth c A H locs ls hX hP hD hS hl
  obtain ⟨C, T, N, ref, h1, h2, h3, h4, h5⟩ := F
  obtain ⟨hx, hb, -, hown, hts, hK, -⟩ := id hX
  refine va_get hx hb hts h1 hown hK hP q0 he h2 k h3 (hts _ h4) (fun x9 h9 => ?_) hv hd (kk p e s m args below meth c A H locs ls hX hP hD hS hl)
  rcases h5 with h5 | h5
  · rw [h5]; exact h9
  · exact u_same (hts _ h5) x9 h9
theorem x_put {index ci k q0 a : Nat} {fs : List Value} {v : Value} {ty : FieldType} (F : xF cl Ts own index ci k) (Fw : xFw cl ci k ty) (he : (wd u)[q0]? = some (a, .inr (ci, fs))) (hn : narrow ty v = v) (hfit : fits ty v = true) (hl' : k < fs.length) (hset : (wd u).set q0 (a, .inr (ci, fs.set k v)) = wd u') (hd : decode cc pc = .ok (.putfield index, 3)) (kk : RR l D cl tys Ev own cc nL Ts rm ret wd post mc ms kc ks (pc + 3) lv st u') : RR l D cl tys Ev own cc nL Ts rm ret wd post mc ms kc ks pc lv (v :: .ref a :: st) u := by
  intro p e s m args below meth c A H locs ls hX hP hD hS hl
  obtain ⟨C, T, N, ref, h1, h2, h3, h4, h5⟩ := F
  obtain ⟨C', T', N', ty0, g2, g3, g4, g5, g6⟩ := Fw
  obtain ⟨rfl, rfl, rfl⟩ : C = C' ∧ T = T' ∧ N = N' := by
    have h := Option.some.inj (h2.symm.trans g2)
    simp only [Prod.mk.injEq] at h
    exact h
  obtain ⟨hx, hb, -, hown, hts, hK, -⟩ := id hX
  refine va_put hx hb hts h1 ty0 g3 g4 hown hK hP hD hS q0 he h2 k h3 (hts _ h4) (fun x9 h9 => ?_) g5 g6 hn hfit hl' hd (fun H1 locs1 hP1 hD1 hS1 => ?_)
  · rcases h5 with h5 | h5
    · rw [h5]; exact h9
    · exact u_same (hts _ h5) x9 h9
  · rw [hset] at hP1 hD1
    exact kk p e s m args below meth c A H1 locs1 ls hX hP1 hD1 hS1 hl

theorem x_iald {q0 t0 a n : Nat} {cA : ClassId} {f : Nat → Int32} {i : Int32} (he : (wd u)[q0]? = some (a, .inl (cA, n, .inl f))) (ht : tys[t0]? = some (cA, .int)) (hin : vp_in i n) (hd : decode cc pc = .ok (.iaload, 1)) (kk : RR l D cl tys Ev own cc nL Ts rm ret wd post mc ms kc ks (pc + 1) lv (.int (f i.toNatClampNeg) :: st) u) : RR l D cl tys Ev own cc nL Ts rm ret wd post mc ms kc ks pc lv (.int i :: .ref a :: st) u := by
  intro p e s m args below meth c A H locs ls hX hP hD hS hl
  exact va_iald hX.1 hX.2.1 hX.2.2.2.2.2.1 hP q0 t0 he ht hin hd (kk p e s m args below meth c A H locs ls hX hP hD hS hl)

theorem x_cald {q0 t0 a n : Nat} {cA : ClassId} {f : Nat → Int32} {i : Int32} (he : (wd u)[q0]? = some (a, .inl (cA, n, .inl f))) (ht : tys[t0]? = some (cA, .char)) (hin : vp_in i n) (hd : decode cc pc = .ok (.caload, 1)) (kk : RR l D cl tys Ev own cc nL Ts rm ret wd post mc ms kc ks (pc + 1) lv (.int (f i.toNatClampNeg) :: st) u) : RR l D cl tys Ev own cc nL Ts rm ret wd post mc ms kc ks pc lv (.int i :: .ref a :: st) u := by
  intro p e s m args below meth c A H locs ls hX hP hD hS hl
  exact va_cald hX.1 hX.2.1 hX.2.2.2.2.2.1 hP q0 t0 he ht hin hd (kk p e s m args below meth c A H locs ls hX hP hD hS hl)

theorem x_zald {q0 t0 a n : Nat} {cA : ClassId} {f : Nat → Int32} {i : Int32} (he : (wd u)[q0]? = some (a, .inl (cA, n, .inl f))) (ht : tys[t0]? = some (cA, .boolean)) (hin : vp_in i n) (hd : decode cc pc = .ok (.baload, 1)) (kk : RR l D cl tys Ev own cc nL Ts rm ret wd post mc ms kc ks (pc + 1) lv (.int (f i.toNatClampNeg) :: st) u) : RR l D cl tys Ev own cc nL Ts rm ret wd post mc ms kc ks pc lv (.int i :: .ref a :: st) u := by
  intro p e s m args below meth c A H locs ls hX hP hD hS hl
  exact va_zald hX.1 hX.2.1 hX.2.2.2.2.2.1 hP q0 t0 he ht hin hd (kk p e s m args below meth c A H locs ls hX hP hD hS hl)

theorem x_lald {q0 t0 a n : Nat} {cA : ClassId} {f : Nat → Int64} {i : Int32} (he : (wd u)[q0]? = some (a, .inl (cA, n, .inr (.inl f)))) (ht : tys[t0]? = some (cA, .long)) (hin : vp_in i n) (hd : decode cc pc = .ok (.laload, 1)) (kk : RR l D cl tys Ev own cc nL Ts rm ret wd post mc ms kc ks (pc + 1) lv (.long (f i.toNatClampNeg) :: st) u) : RR l D cl tys Ev own cc nL Ts rm ret wd post mc ms kc ks pc lv (.int i :: .ref a :: st) u := by
  intro p e s m args below meth c A H locs ls hX hP hD hS hl
  exact va_lald hX.1 hX.2.1 hX.2.2.2.2.2.1 hP q0 t0 he ht hin hd (kk p e s m args below meth c A H locs ls hX hP hD hS hl)
theorem x_aald {q0 t0 a n : Nat} {cA : ClassId} {C : String} {f : Nat → Option Nat} {i : Int32} (he : (wd u)[q0]? = some (a, .inl (cA, n, .inr (.inr (.inr (.inr f)))))) (ht : tys[t0]? = some (cA, .object C)) (hin : vp_in i n) (hd : decode cc pc = .ok (.aaload, 1)) (kk : RR l D cl tys Ev own cc nL Ts rm ret wd post mc ms kc ks (pc + 1) lv (va_rf (f i.toNatClampNeg) :: st) u) : RR l D cl tys Ev own cc nL Ts rm ret wd post mc ms kc ks pc lv (.int i :: .ref a :: st) u := by
  intro p e s m args below meth c A H locs ls hX hP hD hS hl
  exact va_aldq hX.1 hX.2.1 hX.2.2.2.2.2.1 hP q0 t0 he ht hin hd (kk p e s m args below meth c A H locs ls hX hP hD hS hl)

theorem x_iast {q0 t0 a n : Nat} {cA : ClassId} {f : Nat → Int32} {i x : Int32} (he : (wd u)[q0]? = some (a, .inl (cA, n, .inl f))) (ht : tys[t0]? = some (cA, .int)) (hin : vp_in i n) (hset : (wd u).set q0 (a, .inl (cA, n, .inl (upd f i.toNatClampNeg x))) = wd u') (hd : decode cc pc = .ok (.iastore, 1)) (kk : RR l D cl tys Ev own cc nL Ts rm ret wd post mc ms kc ks (pc + 1) lv st u') : RR l D cl tys Ev own cc nL Ts rm ret wd post mc ms kc ks pc lv (.int x :: .int i :: .ref a :: st) u := by
  intro p e s m args below meth c A H locs ls hX hP hD hS hl
  refine va_iast hX.1 hX.2.1 hX.2.2.2.2.2.1 hP hD hS q0 t0 he ht hin hd (fun H1 locs1 hP1 hD1 hS1 => ?_)
  rw [hset] at hP1 hD1
  exact kk p e s m args below meth c A H1 locs1 ls hX hP1 hD1 hS1 hl

theorem x_cast {q0 t0 a n : Nat} {cA : ClassId} {f : Nat → Int32} {i x : Int32} (he : (wd u)[q0]? = some (a, .inl (cA, n, .inl f))) (ht : tys[t0]? = some (cA, .char)) (hin : vp_in i n) (hset : (wd u).set q0 (a, .inl (cA, n, .inl (upd f i.toNatClampNeg (vp_nar .char x)))) = wd u') (hd : decode cc pc = .ok (.castore, 1)) (kk : RR l D cl tys Ev own cc nL Ts rm ret wd post mc ms kc ks (pc + 1) lv st u') : RR l D cl tys Ev own cc nL Ts rm ret wd post mc ms kc ks pc lv (.int x :: .int i :: .ref a :: st) u := by
  intro p e s m args below meth c A H locs ls hX hP hD hS hl
  refine va_cast hX.1 hX.2.1 hX.2.2.2.2.2.1 hP hD hS q0 t0 he ht hin hd (fun H1 locs1 hP1 hD1 hS1 => ?_)
  rw [hset] at hP1 hD1
  exact kk p e s m args below meth c A H1 locs1 ls hX hP1 hD1 hS1 hl

theorem x_last {q0 t0 a n : Nat} {cA : ClassId} {f : Nat → Int64} {i : Int32} {x : Int64} (he : (wd u)[q0]? = some (a, .inl (cA, n, .inr (.inl f)))) (ht : tys[t0]? = some (cA, .long)) (hin : vp_in i n) (hset : (wd u).set q0 (a, .inl (cA, n, .inr (.inl (vp_updL f i.toNatClampNeg x)))) = wd u') (hd : decode cc pc = .ok (.lastore, 1)) (kk : RR l D cl tys Ev own cc nL Ts rm ret wd post mc ms kc ks (pc + 1) lv st u') : RR l D cl tys Ev own cc nL Ts rm ret wd post mc ms kc ks pc lv (.long x :: .int i :: .ref a :: st) u := by
  intro p e s m args below meth c A H locs ls hX hP hD hS hl
  refine va_last hX.1 hX.2.1 hX.2.2.2.2.2.1 hP hD hS q0 t0 he ht hin hd (fun H1 locs1 hP1 hD1 hS1 => ?_)
  rw [hset] at hP1 hD1
  exact kk p e s m args below meth c A H1 locs1 ls hX hP1 hD1 hS1 hl

theorem x_objInit {idx a : Nat} (h1 : Cond.methodLink own idx objectInit ∈ Ts) (h2 : Cond.instanceMethod objectInit ∈ Ts) (h3 : Cond.code objectInit ⟨#[0xb1]⟩ 1 none ∈ Ts) (hr : (st.map fun v => v.category).sum ≤ 8) (hf : 1 ≤ rm.frames) (hlo : 20 ≤ rm.locals) (hd : decode cc pc = .ok (.invokespecial idx, 3)) (kk : RR l D cl tys Ev own cc nL Ts rm ret wd post mc ms kc ks (pc + 3) lv st u) : RR l D cl tys Ev own cc nL Ts rm ret wd post mc ms kc ks pc lv (.ref a :: st) u := by
  intro p e s m args below meth c A H locs ls hX hP hD hS hl
  obtain ⟨hx, hb, hml, hown, hts, -⟩ := id hX
  have h8 := lv_room (m := m) (pc := pc) (ls := ls) (rest := .ref a :: st) hr
  exact W.objInit hx hb hown (hts _ h1) (hts _ h2) (hts _ h3) rfl (by rw [hml]; exact hl.1) rfl hd hf (by omega) (kk p e s m args below meth c A H locs ls hX hP hD hS hl)
theorem x_newA {atype : ArrayType} {ty : FieldType} {t0 N' : Nat} {cA : ClassId} {n : Int32} {a0 : vp_A} (hw : Cond.arrayClass (newarray.typeOf atype) ∈ Ts) (hty : newarray.typeOf atype = ty) (hpr : ∀ C, ty ≠ .object C) (ht : tys[t0]? = some (cA, ty)) (ha : ∀ cA : ClassId, vp_cell cA a0 = arrV cA N' (fun _ => defaultValue ty)) (hn : ¬ n < 0) (hN : n.toNatClampNeg = N') (hbytes : N' * componentBytes ty ≤ 536870912) (hc : kc + 1 ≤ rm.cells) (hs : ks + N' ≤ rm.slots) (hd : decode cc pc = .ok (.newarray atype, 2))
    (kk : ∀ (q : Nat) (u1 : S), wd u1 = wd u ++ [(q, .inl (cA, a0))] → RR l D cl tys Ev own cc nL Ts rm ret wd post mc ms (kc + 1) (ks + N') (pc + 2) lv (.ref q :: st) u1) (hmk : ∀ q : Nat, ∃ u1 : S, wd u1 = wd u ++ [(q, .inl (cA, a0))]) : RR l D cl tys Ev own cc nL Ts rm ret wd post mc ms kc ks pc lv (.int n :: st) u := by
  intro p e s m args below meth c A H locs ls hX hP hD hS hl
  obtain ⟨hx, hb, hml, hown, hts, hK, -, -, -, hA⟩ := id hX
  refine va_newa hx hb (hts _ hw) hty hK hP hD hS hA ha hn hN hbytes hc hs hd (fun q cA1 H1 hK1 hP1 hD1 hS1 => ?_)
  have e1 := (hK1.2 tys.length (cA1, ty) (by simp)).2
  have e2 := (hK.2 t0 (cA, ty) ht).2
  have e3 : cA1 = cA := by
    cases ty with
    | object C => exact absurd rfl (hpr C)
    | _ => exact Option.some.inj (Eq.trans (Eq.symm e1) e2)
  subst e3
  obtain ⟨u1, hu1⟩ := hmk q
  exact kk q u1 hu1 p e s m args below meth c A H1 locs ls hX (by rw [hu1]; exact hP1) (by rw [hu1]; exact hD1) hS1 hl
theorem x_newQ {index t0 N' : Nat} {C : String} {cA : ClassId} {n : Int32} (hw : Cond.classLink own index C ∈ Ts) (hao : ∀ (s : State) (A : Nat → Prop), Ev A s → va_AO C s) (ht : tys[t0]? = some (cA, .object C)) (hn : ¬ n < 0) (hN : n.toNatClampNeg = N') (hbytes : N' * 4 ≤ 536870912) (hc : kc + 1 ≤ rm.cells) (hs : ks + N' ≤ rm.slots) (hd : decode cc pc = .ok (.anewarray index, 3))
    (kk : ∀ (q : Nat) (u1 : S), wd u1 = wd u ++ [(q, .inl (cA, N', .inr (.inr (.inr (.inr (fun _ => none))))))] → RR l D cl tys Ev own cc nL Ts rm ret wd post mc ms (kc + 1) (ks + N') (pc + 3) lv (.ref q :: st) u1) (hmk : ∀ q : Nat, ∃ u1 : S, wd u1 = wd u ++ [(q, .inl (cA, N', .inr (.inr (.inr (.inr (fun _ => none))))))]) : RR l D cl tys Ev own cc nL Ts rm ret wd post mc ms kc ks pc lv (.int n :: st) u := by
  intro p e s m args below meth c A H locs ls hX hP hD hS hl
  obtain ⟨hx, hb, hml, hown, hts, hK, hE, -, -, hA⟩ := id hX
  refine va_newq hx hb hown (hts _ hw) (hao s A hE) hK hP hD hS hA hn hN hbytes hc hs hd (fun q cA1 H1 hK1 hP1 hD1 hS1 => ?_)
  obtain ⟨_, _, _, _, _, e1⟩ := (hK1.2 tys.length (cA1, .object C) (by simp)).2
  obtain ⟨_, _, _, _, _, e2⟩ := (hK.2 t0 (cA, .object C) ht).2
  have e3 : cA1 = cA := Option.some.inj (Eq.trans (Eq.symm e1) e2)
  subst e3
  obtain ⟨u1, hu1⟩ := hmk q
  exact kk q u1 hu1 p e s m args below meth c A H1 locs ls hX (by rw [hu1]; exact hP1) (by rw [hu1]; exact hD1) hS1 hl
theorem x_new {index ci N : Nat} {C : String} {T : u_T} {ty : Nat → FieldType} {fs : List Value} (hin : ∀ w ∈ u_ws C T N, w ∈ Ts) (hty : ∀ k, k < N → parseFieldDescriptor (T k).2.2.1 = some (ty k)) (hcl : Cond.classLink own index C ∈ Ts) (hinst : Cond.instantiable C N ∈ Ts) (hini : Cond.initialized C ∈ Ts) (hcc : cl[ci]? = some (C, T, N)) (hfs : ∀ j, j < N → defaultValue (ty j) = vp_V fs j) (hc : kc + 1 ≤ rm.cells) (hs : ks + N ≤ rm.slots) (hd : decode cc pc = .ok (.new index, 3))
    (kk : ∀ (q : Nat) (u1 : S), wd u1 = wd u ++ [(q, .inr (ci, fs))] → RR l D cl tys Ev own cc nL Ts rm ret wd post mc ms (kc + 1) (ks + N) (pc + 3) lv (.ref q :: st) u1) (hmk : ∀ q : Nat, ∃ u1 : S, wd u1 = wd u ++ [(q, .inr (ci, fs))]) : RR l D cl tys Ev own cc nL Ts rm ret wd post mc ms kc ks pc lv st u := by
  intro p e s m args below meth c A H locs ls hX hP hD hS hl
  obtain ⟨hx, hb, hml, hown, hts, hK, -, -, -, hA⟩ := id hX
  refine va_new hx hb hts hin ty hty hown (hts _ hcl) (hts _ hinst) (hts _ hini) hK hP hD hS hA hcc hfs hc hs hd (fun q H1 hP1 hD1 hS1 => ?_)
  obtain ⟨u1, hu1⟩ := hmk q
  exact kk q u1 hu1 p e s m args below meth c A H1 locs ls hX (by rw [hu1]; exact hP1) (by rw [hu1]; exact hD1) hS1 hl

theorem xC.of {y : MethodName} {ws ws' : List Cond} {av : List Value} (hy : plainName y.cls = true) (hw : ws = Cond.code y cc nL ret :: ws') (hlen : (lg_sl av).length ≤ nL) (h : RR l D cl tys Ev y.cls cc nL ws rm ret wd post mc ms 0 0 0 (lv_args 0 av) [] u) : xC l D cl tys Ev y ws rm wd av u post mc ms := by
  intro sz
  refine Met.ofW (cc := cc) (maxL := nL) (ret := ret) hy hw ?_
  intro p e s m args below meth c s₁ B hml hv
  obtain ⟨rfl, hsz, hP, hK, hD0, hE⟩ := hv
  have hx := B.exec
  have hb := B.bytes
  have hr := B.returns
  have hts := atoms_spec (ws := ws) B.pre
  have hown : s.vm.findClass y.cls = some m.cls := findClass_of_methodNamed B.named
  have hlocks := B.notSynchronized
  subst hsz
  have hD := hD0.self (sz := s.heap.size)
  have hl := lv_entry av (n := nL) hlen
  rw [lg_entry_eq]
  exact h p e s m av.toArray below meth c _ s.heap [] _ ⟨hx, hb, hml, hown, hts, hK, hE, hlocks, hr, fun q h => Or.inr h⟩ hP hD va_S.rf hl
end RL
end
section
section RC
/-- what stays: facts of the tables and of cells that no method here writes -/
def xEok (Ev : (Nat → Prop) → State → Prop) : Prop := (∀ (A A' : Nat → Prop) (s U : State), Ev A s → s.WarmedH U.vm → s.heap.size ≤ U.heap.size → (∀ q : Nat, q < s.heap.size → ¬ A q → U.heap[q]? = s.heap[q]?) → (∀ q, A' q → A q) → Ev A' U) ∧ ∀ (A : Nat → Prop) (U : State) (g : JFrame) (mk : MethodId) (a : Array Value), Ev A U → Ev A (U.calling g mk a)
variable {S Sz : Type} {l : Launch} {D : va_G} {cl : List vw_C} {tys : List (ClassId × FieldType)} {Ev : (Nat → Prop) → State → Prop} {own : String} {cc : ByteArray} {nL : Nat} {Ts : List Cond} {rm : Room} {ret : Option FieldType} {wd : S → va_W} {post : Option Value → S → Prop} {mc ms kc ks : Nat} {pc : Nat} {lv lv' : List (Nat × Value)} {st : List Value} {u u' : S}
theorem xB.blind (hE : xEok Ev) {wd : S → va_W} {u : S} {sz : Nat} {av : List Value} : FrameBlind (va_Pc av (xB D cl tys Ev wd u sz)) := by
  intro a U g mk q
  obtain ⟨q0, q1, qP, qK, qD, qE⟩ := q
  exact ⟨q0, q1, qP, va_K.moved (u := U) (U := U.calling g mk a) (Vm.Alike.refl U.vm) qK, qD, hE.2 _ _ _ _ _ qE⟩
theorem x_pre (hE : xEok Ev) {wdz : Sz → va_W} {uz : Sz} {av : List Value} {p : Program} {s : State} {m : MethodId} {args : Array Value} {meth : Method} {c : Code} {A : Nat → Prop} {H : Heap} {locs : List Loc}
    (hX : xX D cl tys Ev own cc nL Ts ret p s m args meth c A) (hS : va_S A s.heap H locs) (hPz : va_P D cl (wdz uz) H) (hDz : va_D A (wdz uz)) (U : State) (hU : U.heap = H) (hW : s.WarmedH U.vm) : va_Pc av (xB D cl tys Ev wdz uz H.size) av.toArray U := by
  obtain ⟨-, -, -, -, -, hK, hEv, -, -, hA⟩ := hX
  refine ⟨rfl, by rw [hU], by rw [hU]; exact hPz, va_K.moved hW.alike hK, hDz.weaken (fun _ _ _ _ => trivial), ?_⟩
  refine hE.1 A _ s U hEv hW (by rw [hU]; exact hS.1) (fun q h1 h2 => by rw [hU]; exact hS.2.1 q h1 h2) (fun q h => ?_)
  rcases h with ⟨k, e, h⟩ | h
  · exact hDz.2 k _ h
  · exact hA q (Nat.le_trans hS.1 h)
/-- behind a call: what came back -/
theorem x_back {p : Program} {e : Env} {s : State} {m : MethodId} {args : Array Value} {below : List Frame} {meth : Method} {c : Code} {A : Nat → Prop} {H : Heap} {locs : List Loc} {ls : Array Slot} {st0 rest : List Value} {a : Array Value} {cz sz : Nat} {Q : State → Prop}
    {wdz : Sz → va_W} {uz : Sz} {pz : Option Value → Sz → Prop}
    (hr : va_Run p l e rm s m args below meth c H locs kc ks cz sz (F0 m pc ls st0) rest (xQ D cl wdz (va_A (wdz uz) H.size) pz a) (va_A (wdz uz) H.size)) (hS : va_S A s.heap H locs) (hF : ∀ q, va_A (wdz uz) H.size q → A q)
    (kk : ∀ (r : Option Value) (u1 : Sz) (H1 : Heap) (locs1 : List Loc), pz r u1 → va_P D cl (wdz u1) H1 → va_D (va_A (wdz uz) H.size) (wdz u1) → H.size ≤ H1.size → (∀ q : Nat, q < H.size → ¬ va_A (wdz uz) H.size q → H1[q]? = H[q]?) → va_S A s.heap H1 locs1 → W p l e rm s m args below meth c H1 locs1 (kc + cz) (ks + sz) Q (F0 m (pc + 3) ls (r.toList ++ rest))) : W p l e rm s m args below meth c H locs kc ks Q (F0 m pc ls st0) := by
  intro T hT X
  obtain ⟨v, st₀, t, T', L, h0, X', hL, e1, e2, ⟨⟨r, u1, hv, hp, hP1, hD1⟩, hz, hk⟩, st⟩ := hr T hT X
  cases hv
  rw [h0] at hz hk
  obtain ⟨t2, a1, b1⟩ := kk v u1 T'.heap (locs ++ L) hp (by rw [e1]; exact hP1) hD1 (by rw [e1]; exact hz) (fun q h1 h2 => by rw [e1]; exact hk q h1 h2)
    ⟨Nat.le_trans hS.1 (by rw [e1]; exact hz), fun q h1 h2 => by rw [e1, hk q (Nat.lt_of_lt_of_le h1 hS.1) (fun z => h2 (hF q z))]; exact hS.2.1 q h1 h2, fun q hq => by
      rcases List.mem_append.mp hq with h | h
      · exact hS.2.2 q h
      · exact hF _ (hL q h)⟩ T' rfl X'
  exact ⟨t2, st t2 a1, b1⟩
theorem x_freeS {A : Nat → Prop} {s : State} {H : Heap} {locs : List Loc} {wz : va_W} (hA : ∀ q, s.heap.size ≤ q → A q) (hS : va_S A s.heap H locs) (hD : va_D A wz) : ∀ q, va_A wz H.size q → A q := by
  intro q h
  rcases h with ⟨k, e, h⟩ | h
  · exact hD.2 k _ h
  · exact hA q (Nat.le_trans hS.1 h)
theorem x_Pi {ws : va_W} {H : Heap} : va_P D cl ws H ↔ ∀ q ∈ ws, va_at D cl q H :=
  ⟨fun h q hq => by
    obtain ⟨i, hi⟩ := List.getElem?_of_mem hq
    exact h i q hi, fun h k q hk => h q (List.mem_of_getElem? hk)⟩
theorem x_Di {A : Nat → Prop} {ws : va_W} : va_D A ws ↔ ws.Pairwise (fun a b => a.1 ≠ b.1) ∧ ∀ q ∈ ws, A q.1 := by
  constructor
  · intro h
    refine ⟨?_, fun q hq => ?_⟩
    · have key : ∀ (w : va_W), (∀ (i j : Nat) (p q : Nat × va_E), w[i]? = some p → w[j]? = some q → p.1 = q.1 → i = j) → w.Pairwise (fun a b => a.1 ≠ b.1) := by
        intro w
        induction w with
        | nil => intro _; exact List.Pairwise.nil
        | cons a w ih =>
          intro hw
          refine List.Pairwise.cons (fun b hb hab => ?_) (ih (fun i j p q hi hj hpq => ?_))
          · obtain ⟨i, hi⟩ := List.getElem?_of_mem hb
            have := hw 0 (i + 1) a b (by simp) (by simpa using hi) hab
            omega
          · have := hw (i + 1) (j + 1) p q (by simpa using hi) (by simpa using hj) hpq
            omega
      exact key ws h.1
    · obtain ⟨i, hi⟩ := List.getElem?_of_mem hq
      exact h.2 i q hi
  · intro ⟨h1, h2⟩
    refine ⟨?_, fun k q hk => h2 q (List.mem_of_getElem? hk)⟩
    have key : ∀ (w : va_W), w.Pairwise (fun a b => a.1 ≠ b.1) → ∀ (i j : Nat) (p q : Nat × va_E), w[i]? = some p → w[j]? = some q → p.1 = q.1 → i = j := by
      intro w
      induction w with
      | nil => intro _ i j p q hi; simp at hi
      | cons a w ih =>
        intro hw i j p q hi hj hpq
        obtain ⟨g1, g2⟩ := List.pairwise_cons.mp hw
        cases i with
        | zero =>
          cases j with
          | zero => rfl
          | succ j =>
            simp at hi hj
            subst hi
            exact absurd hpq (g1 q (List.mem_of_getElem? hj))
        | succ i =>
          cases j with
          | zero =>
            simp at hi hj
            subst hj
            exact absurd hpq.symm (g1 p (List.mem_of_getElem? hi))
          | succ j =>
            simp at hi hj
            rw [ih g2 i j p q hi hj hpq]
    exact key ws h1
theorem x_Pp {ws ws' : va_W} {H : Heap} (h : va_P D cl ws H) (hp : ws.Perm ws') : va_P D cl ws' H := x_Pi.mpr (fun q hq => x_Pi.mp h q (hp.mem_iff.mpr hq))
theorem x_Dp {A : Nat → Prop} {ws ws' : va_W} (h : va_D A ws) (hp : ws.Perm ws') : va_D A ws' := by
  obtain ⟨h1, h2⟩ := x_Di.mp h
  exact x_Di.mpr ⟨(hp.pairwise_iff (fun h => Ne.symm h)).mp h1, fun q hq => h2 q (hp.mem_iff.mpr hq)⟩
/-- the frame: the rest wr stays, the callee's wc becomes w1 -/
theorem x_join {A : Nat → Prop} {wr wc w1 : va_W} {H H1 : Heap} (hP : va_P D cl (wr ++ wc) H) (hD : va_D A (wr ++ wc)) (hk : ∀ q : Nat, q < H.size → ¬ va_A wc H.size q → H1[q]? = H[q]?) (hF : ∀ q, va_A wc H.size q → A q) (hP1 : va_P D cl w1 H1) (hD1 : va_D (va_A wc H.size) w1) : va_P D cl (wr ++ w1) H1 ∧ va_D A (wr ++ w1) := by
  obtain ⟨g1, g2⟩ := x_Di.mp hD
  obtain ⟨p1, p2, p3⟩ := List.pairwise_append.mp g1
  obtain ⟨d1, d2⟩ := x_Di.mp hD1
  have hlt : ∀ q ∈ wr, q.1 < H.size := fun q hq => (x_Pi.mp hP q (List.mem_append_left _ hq)).lt
  have hout : ∀ q ∈ wr, ¬ va_A wc H.size q.1 := by
    intro q hq h
    rcases h with ⟨k, e, h⟩ | h
    · exact p3 q hq (q.1, e) (List.mem_of_getElem? h) rfl
    · have := hlt q hq
      omega
  refine ⟨x_Pi.mpr (fun q hq => ?_), x_Di.mpr ⟨List.pairwise_append.mpr ⟨p1, d1, fun a ha b hb hab => ?_⟩, fun q hq => ?_⟩⟩
  · rcases List.mem_append.mp hq with h | h
    · exact (x_Pi.mp hP q (List.mem_append_left _ h)).kept (hk q.1 (hlt q h) (hout q h))
    · exact x_Pi.mp hP1 q h
  · exact hout a ha (by rw [hab]; exact d2 b hb)
  · rcases List.mem_append.mp hq with h | h
    · exact g2 q (List.mem_append_left _ h)
    · exact hF _ (d2 q h)
/-- how the callee's world stands in the caller's: beside the rest wr; put says the caller's state behind the call -/
def xLens (wd : S → va_W) (u : S) (wdz : Sz → va_W) (uz : Sz) (put : Sz → S) : Prop := ∃ wr : va_W, (wd u).Perm (wr ++ wdz uz) ∧ ∀ u1 : Sz, (wr ++ wdz u1).Perm (wd (put u1))
theorem x_lens {p : Program} {e : Env} {s : State} {m : MethodId} {args : Array Value} {below : List Frame} {meth : Method} {c : Code} {A : Nat → Prop} {H : Heap} {locs : List Loc} {ls : Array Slot} {st0 rest : List Value} {a : Array Value} {cz sz : Nat}
    {wdz : Sz → va_W} {uz : Sz} {put : Sz → S} {pz : Option Value → Sz → Prop} (L : xLens wd u wdz uz put)
    (hX : xX D cl tys Ev own cc nL Ts ret p s m args meth c A) (hP : va_P D cl (wd u) H) (hD : va_D A (wd u)) (hS : va_S A s.heap H locs) (hl : lv_has ls nL lv)
    (hr : va_P D cl (wdz uz) H → va_D A (wdz uz) → va_Run p l e rm s m args below meth c H locs kc ks cz sz (F0 m pc ls st0) rest (xQ D cl wdz (va_A (wdz uz) H.size) pz a) (va_A (wdz uz) H.size))
    (kk : ∀ (r : Option Value) (u1 : Sz), pz r u1 → RR l D cl tys Ev own cc nL Ts rm ret wd post mc ms (kc + cz) (ks + sz) (pc + 3) lv (r.toList ++ rest) (put u1)) : W p l e rm s m args below meth c H locs kc ks (MQ below (xQ D cl wd A post) args s mc ms A) (F0 m pc ls st0) := by
  obtain ⟨wr, hC, hput⟩ := L
  have hP0 := x_Pp hP hC
  have hD0 := x_Dp hD hC
  have hPz : va_P D cl (wdz uz) H := x_Pi.mpr (fun q hq => x_Pi.mp hP0 q (List.mem_append_right _ hq))
  have hDz : va_D A (wdz uz) := x_Di.mpr ⟨(List.pairwise_append.mp (x_Di.mp hD0).1).2.1, fun q hq => (x_Di.mp hD0).2 q (List.mem_append_right _ hq)⟩
  have hF := x_freeS hX.2.2.2.2.2.2.2.2.2 hS hDz
  refine x_back (hr hPz hDz) hS hF (fun r u1 H1 locs1 hp hP1 hD1 hz hk hS1 => ?_)
  obtain ⟨hP2, hD2⟩ := x_join (wr := wr) (w1 := wdz u1) hP0 hD0 hk hF hP1 hD1
  exact kk r u1 hp p e s m args below meth c A H1 locs1 ls hX (x_Pp hP2 (hput u1)) (x_Dp hD2 (hput u1)) hS1 hl
theorem x_id {wd : S → va_W} {u : S} : xLens wd u wd u (fun z => z) := ⟨[], List.Perm.refl _, fun _ => List.Perm.refl _⟩
/-- the callee has no world of its own -/
theorem x_none {wd : S → va_W} {u : S} : xLens wd u (fun _ : Unit => ([] : va_W)) () (fun _ => u) := ⟨wd u, by rw [List.append_nil], fun _ => by rw [List.append_nil]⟩
/-- typed ends -/
def pI (P : Int32 → S → Prop) : Option Value → S → Prop := fun r u => ∃ x, r = some (.int x) ∧ P x u
def pJ (P : Int64 → S → Prop) : Option Value → S → Prop := fun r u => ∃ x, r = some (.long x) ∧ P x u
def pV (P : S → Prop) : Option Value → S → Prop := fun r u => r = none ∧ P u
theorem x_topI {x : Int32} (k : ∀ y : Int32, y = x → RR l D cl tys Ev own cc nL Ts rm ret wd post mc ms kc ks pc lv (.int y :: st) u) : RR l D cl tys Ev own cc nL Ts rm ret wd post mc ms kc ks pc lv (.int x :: st) u := k x rfl
theorem x_topJ {x : Int64} (k : ∀ y : Int64, y = x → RR l D cl tys Ev own cc nL Ts rm ret wd post mc ms kc ks pc lv (.long y :: st) u) : RR l D cl tys Ev own cc nL Ts rm ret wd post mc ms kc ks pc lv (.long x :: st) u := k x rfl
theorem x_rI {put : Sz → S} {P : Int32 → Sz → Prop} (kk : ∀ (x : Int32) (u1 : Sz), P x u1 → RR l D cl tys Ev own cc nL Ts rm ret wd post mc ms kc ks pc lv (.int x :: st) (put u1)) : ∀ (r : Option Value) (u1 : Sz), pI P r u1 → RR l D cl tys Ev own cc nL Ts rm ret wd post mc ms kc ks pc lv (r.toList ++ st) (put u1) := by
  rintro _ u1 ⟨x, rfl, h⟩
  exact kk x u1 h
theorem x_rJ {put : Sz → S} {P : Int64 → Sz → Prop} (kk : ∀ (x : Int64) (u1 : Sz), P x u1 → RR l D cl tys Ev own cc nL Ts rm ret wd post mc ms kc ks pc lv (.long x :: st) (put u1)) : ∀ (r : Option Value) (u1 : Sz), pJ P r u1 → RR l D cl tys Ev own cc nL Ts rm ret wd post mc ms kc ks pc lv (r.toList ++ st) (put u1) := by
  rintro _ u1 ⟨x, rfl, h⟩
  exact kk x u1 h
theorem x_rV {put : Sz → S} {P : Sz → Prop} (kk : ∀ (u1 : Sz), P u1 → RR l D cl tys Ev own cc nL Ts rm ret wd post mc ms kc ks pc lv st (put u1)) : ∀ (r : Option Value) (u1 : Sz), pV P r u1 → RR l D cl tys Ev own cc nL Ts rm ret wd post mc ms kc ks pc lv (r.toList ++ st) (put u1) := by
  rintro _ u1 ⟨rfl, h⟩
  exact kk u1 h
/-- the room of a method that makes nothing, with at most d calls in one another -/
def rmD (d : Nat) : Room := { frames := d, cells := 0, slots := 0, locals := 64 * d }
/-- the callee's room in the caller's -/
def xRm (rm rmz : Room) (nz cz sz kc ks : Nat) : Prop := (rmz.cells = cz ∧ rmz.slots = sz) ∧ (rmz.frames + 1 ≤ rm.frames ∧ 8 + (nz + 11) + rmz.locals ≤ rm.locals) ∧ kc + cz ≤ rm.cells ∧ ks + sz ≤ rm.slots
theorem rmD_ok {a b nz : Nat} (h : a + 1 ≤ b) (hn : nz ≤ 45) : xRm (rmD b) (rmD a) nz 0 0 0 0 := by
  refine ⟨⟨rfl, rfl⟩, ⟨h, ?_⟩, Nat.le_refl _, Nat.le_refl _⟩
  show 8 + (nz + 11) + 64 * a ≤ 64 * b
  omega
/-- the callee's words -/
def xkB (Ts : List Cond) (y : MethodName) (bz : ByteArray) (nz : Nat) (rz : Option FieldType) (wz : List Cond) (n : Nat) : Prop := GoodIn Ts wz ∧ (∃ w', wz = Cond.code y bz nz rz :: w') ∧ Cond.initialized y.cls ∈ Ts ∧ (y.cls ≠ "java/lang/invoke/MethodHandle" ∧ y.cls ≠ "java/lang/invoke/VarHandle" ∧ (parseMethodDescriptor y.desc).map (fun d => d.parameters.length) = some n)
def xkS (Ts : List Cond) (own : String) (index : Nat) (y : MethodName) (bz : ByteArray) (nz : Nat) (rz : Option FieldType) (wz : List Cond) (n : Nat) : Prop := xkB Ts y bz nz rz wz n ∧ Cond.methodLink own index y ∈ Ts ∧ Cond.static y ∈ Ts
def xkV (Ts : List Cond) (own : String) (index : Nat) (y : MethodName) (bz : ByteArray) (nz : Nat) (rz : Option FieldType) (wz : List Cond) (n : Nat) : Prop := xkB Ts y bz nz rz wz n ∧ Cond.methodLink own index y ∈ Ts ∧ Cond.instanceMethod y ∈ Ts ∧ Cond.selects y.cls y y ∈ Ts
def xkI (Ts : List Cond) (own : String) (index : Nat) (y : MethodName) (bz : ByteArray) (nz : Nat) (wz : List Cond) (n : Nat) : Prop := xkB Ts y bz nz none wz n ∧ Cond.methodLink own index y ∈ Ts ∧ y.name = "<init>" ∧ Cond.instanceMethod y ∈ Ts
def xkSN (Ev : (Nat → Prop) → State → Prop) (Ts : List Cond) (own : String) (index : Nat) (y : MethodName) (bz : ByteArray) (nz : Nat) (rz : Option FieldType) (wz : List Cond) (n : Nat) : Prop := xkB Ts y bz nz rz wz n ∧ (∃ host, ∀ A s, Ev A s → va_Nw (.methodLinkNest own index y host) s) ∧ Cond.static y ∈ Ts
section RCC
variable {y : MethodName} {bz : ByteArray} {nz n index cz sz : Nat} {rz : Option FieldType} {wz : List Cond} {wdz : Sz → va_W} {uz : Sz} {put : Sz → S} {pz : Option Value → Sz → Prop} {rmz : Room} {As st0 : List Value} {a : Nat}
theorem x_callS (K : xkS Ts own index y bz nz rz wz n) (L : xLens wd u wdz uz put) (hz : xC l D cl tys Ev y wz rmz wdz As uz pz cz sz) (hE : xEok Ev) (hR : xRm rm rmz nz cz sz kc ks) (hn : As.length = n) (hw : (st.map fun v => v.category).sum ≤ 8) (hst : st0 = As.reverse ++ st) (hd : decode cc pc = .ok (.invokestatic index, 3))
    (kk : ∀ (r : Option Value) (u1 : Sz), pz r u1 → RR l D cl tys Ev own cc nL Ts rm ret wd post mc ms (kc + cz) (ks + sz) (pc + 3) lv (r.toList ++ st) (put u1)) : RR l D cl tys Ev own cc nL Ts rm ret wd post mc ms kc ks pc lv st0 u := by
  intro p e s m args below meth c A H locs ls hX hP hD hS hl
  obtain ⟨⟨hG, ⟨w', hw'⟩, hini, hdd⟩, hlk, hstt⟩ := K
  obtain ⟨hx, hb, hml, hown, hts, hK, hEv, -⟩ := id hX
  refine x_lens L hX hP hD hS hl (a := As.toArray) (fun hPz hDz => ?_) kk
  exact va_runS (As := As) (rest := st) (bytes := bz) (maxL := nz) (ret := rz) ⟨hx, hb, hml, hown, hts⟩ (hz H.size) ⟨callB_of n hts hG hw' hR.1.1 hR.1.2 (hts _ hini) (hts _ hlk) hdd hR.2.1, hts _ hstt⟩ ⟨xB.blind hE, fun U hU hW => x_pre hE hX hS hPz hDz U hU hW⟩ rfl hn hl.1 hst (lv_room hw) hd hR.2.2
theorem x_callSN (K : xkSN Ev Ts own index y bz nz rz wz n) (L : xLens wd u wdz uz put) (hz : xC l D cl tys Ev y wz rmz wdz As uz pz cz sz) (hE : xEok Ev) (hR : xRm rm rmz nz cz sz kc ks) (hn : As.length = n) (hw : (st.map fun v => v.category).sum ≤ 8) (hst : st0 = As.reverse ++ st) (hd : decode cc pc = .ok (.invokestatic index, 3))
    (kk : ∀ (r : Option Value) (u1 : Sz), pz r u1 → RR l D cl tys Ev own cc nL Ts rm ret wd post mc ms (kc + cz) (ks + sz) (pc + 3) lv (r.toList ++ st) (put u1)) : RR l D cl tys Ev own cc nL Ts rm ret wd post mc ms kc ks pc lv st0 u := by
  intro p e s m args below meth c A H locs ls hX hP hD hS hl
  obtain ⟨⟨hG, ⟨w', hw'⟩, hini, hdd⟩, ⟨host, hlk⟩, hstt⟩ := K
  obtain ⟨hx, hb, hml, hown, hts, hK, hEv, -⟩ := id hX
  refine x_lens L hX hP hD hS hl (a := As.toArray) (fun hPz hDz => ?_) kk
  exact va_runSN (As := As) (rest := st) (bytes := bz) (maxL := nz) (ret := rz) ⟨hx, hb, hml, hown, hts⟩ (hz H.size) ⟨va_cnB n hts hG hw' hR.1.1 hR.1.2 (hlk A s hEv) (hts _ hini) hdd hR.2.1, hts _ hstt, trivial⟩ ⟨xB.blind hE, fun U hU hW => x_pre hE hX hS hPz hDz U hU hW⟩ rfl hn hl.1 hst (lv_room hw) hd hR.2.2
theorem x_callV {q0 ci : Nat} {fs : List Value} {T : u_T} {N : Nat} (K : xkV Ts own index y bz nz rz wz n) (hc : cl[ci]? = some (y.cls, T, N)) (he : (wd u)[q0]? = some (a, .inr (ci, fs))) (L : xLens wd u wdz uz put) (hz : xC l D cl tys Ev y wz rmz wdz (.ref a :: As) uz pz cz sz) (hE : xEok Ev) (hR : xRm rm rmz nz cz sz kc ks) (hn : As.length = n) (hw : (st.map fun v => v.category).sum ≤ 8) (hst : st0 = As.reverse ++ .ref a :: st) (hd : decode cc pc = .ok (.invokevirtual index, 3))
    (kk : ∀ (r : Option Value) (u1 : Sz), pz r u1 → RR l D cl tys Ev own cc nL Ts rm ret wd post mc ms (kc + cz) (ks + sz) (pc + 3) lv (r.toList ++ st) (put u1)) : RR l D cl tys Ev own cc nL Ts rm ret wd post mc ms kc ks pc lv st0 u := by
  intro p e s m args below meth c A H locs ls hX hP hD hS hl
  obtain ⟨⟨hG, ⟨w', hw'⟩, hini, hdd⟩, hlk, hin, hsel⟩ := K
  obtain ⟨hx, hb, hml, hown, hts, hK, hEv, -⟩ := id hX
  refine x_lens L hX hP hD hS hl (a := (.ref a :: As).toArray) (fun hPz hDz => ?_) kk
  exact va_runV (As := As) (rest := st) (b := a) (C := y.cls) (bytes := bz) (maxL := nz) (ret := rz) ⟨hx, hb, hml, hown, hts⟩ (hz H.size) ⟨callB_of n hts hG hw' hR.1.1 hR.1.2 (hts _ hini) (hts _ hlk) hdd hR.2.1, hts _ hin, hts _ hsel⟩ ⟨xB.blind hE, va_recv hK hP hc he, fun U hU hW => x_pre hE hX hS hPz hDz U hU hW⟩ rfl hn hl.1 hst (lv_room hw) hd hR.2.2
theorem x_callI (K : xkI Ts own index y bz nz wz n) (L : xLens wd u wdz uz put) (hz : xC l D cl tys Ev y wz rmz wdz (.ref a :: As) uz pz cz sz) (hE : xEok Ev) (hR : xRm rm rmz nz cz sz kc ks) (hn : As.length = n) (hw : (st.map fun v => v.category).sum ≤ 8) (hst : st0 = As.reverse ++ .ref a :: st) (hd : decode cc pc = .ok (.invokespecial index, 3))
    (kk : ∀ (r : Option Value) (u1 : Sz), pz r u1 → RR l D cl tys Ev own cc nL Ts rm ret wd post mc ms (kc + cz) (ks + sz) (pc + 3) lv (r.toList ++ st) (put u1)) : RR l D cl tys Ev own cc nL Ts rm ret wd post mc ms kc ks pc lv st0 u := by
  intro p e s m args below meth c A H locs ls hX hP hD hS hl
  obtain ⟨⟨hG, ⟨w', hw'⟩, hini, hdd⟩, hlk, hnm, hin⟩ := K
  obtain ⟨hx, hb, hml, hown, hts, hK, hEv, -⟩ := id hX
  refine x_lens L hX hP hD hS hl (a := (.ref a :: As).toArray) (fun hPz hDz => ?_) kk
  exact va_runI (As := As) (rest := st) (b := a) (bytes := bz) (maxL := nz) ⟨hx, hb, hml, hown, hts⟩ (hz H.size) ⟨callB_of n hts hG hw' hR.1.1 hR.1.2 (hts _ hini) (hts _ hlk) hdd hR.2.1, hnm, hts _ hin⟩ ⟨xB.blind hE, fun U hU hW => x_pre hE hX hS hPz hDz U hU hW⟩ rfl hn hl.1 hst (lv_room hw) hd hR.2.2
end RCC
end RC
end
section
def T_C : u_T := fun k => match k with
  | 0 => ("DeckFront$Card", "signs", "[C", true)
  | _ => ("DeckFront$Card", "length", "I", false)
def ty_C : Nat → FieldType := fun k => match k with
  | 0 => (.array .char)
  | _ => .int
theorem nm_C : ∀ a, a < 2 → ∀ b, b < 2 → a ≠ b → (T_C a).2.1 ≠ (T_C b).2.1 := by decide +kernel
theorem tk_C : ∀ k, k < 2 → parseFieldDescriptor (T_C k).2.2.1 = some (ty_C k) := by decide +kernel
theorem uw0_C : ∀ k, k < 2 → u_lay "DeckFront$Card" T_C k ∈ wG := fun k hk => wg_in (by revert hk; revert k; decide +kernel) (by revert hk; revert k; decide +kernel)
theorem uw_C {a : Cond} : ∀ w ∈ u_ws "DeckFront$Card" T_C 2, w ∈ a :: wG := fun w hw => by
  obtain ⟨k, hk, rfl⟩ := List.mem_map.mp hw
  exact cG (uw0_C k (List.mem_range.mp hk))
def T_K : u_T := fun k => match k with
  | 0 => ("DeckFront$Deck", "rows", "[LDeckFront$Statement;", true)
  | _ => ("DeckFront$Deck", "count", "I", false)
def ty_K : Nat → FieldType := fun k => match k with
  | 0 => (.array (.object "DeckFront$Statement"))
  | _ => .int
theorem nm_K : ∀ a, a < 2 → ∀ b, b < 2 → a ≠ b → (T_K a).2.1 ≠ (T_K b).2.1 := by decide +kernel
theorem tk_K : ∀ k, k < 2 → parseFieldDescriptor (T_K k).2.2.1 = some (ty_K k) := by decide +kernel
theorem uw0_K : ∀ k, k < 2 → u_lay "DeckFront$Deck" T_K k ∈ wG := fun k hk => wg_in (by revert hk; revert k; decide +kernel) (by revert hk; revert k; decide +kernel)
theorem uw_K {a : Cond} : ∀ w ∈ u_ws "DeckFront$Deck" T_K 2, w ∈ a :: wG := fun w hw => by
  obtain ⟨k, hk, rfl⟩ := List.mem_map.mp hw
  exact cG (uw0_K k (List.mem_range.mp hk))
def T_S : u_T := fun k => match k with
  | 0 => ("DeckFront$Tape", "text", "[C", true)
  | 1 => ("DeckFront$Tape", "opens", "[I", true)
  | 2 => ("DeckFront$Tape", "closes", "[I", true)
  | 3 => ("DeckFront$Tape", "roles", "[I", true)
  | 4 => ("DeckFront$Tape", "length", "I", false)
  | 5 => ("DeckFront$Tape", "at", "I", false)
  | 6 => ("DeckFront$Tape", "inQuote", "Z", false)
  | 7 => ("DeckFront$Statement", "number", "I", false)
  | _ => ("DeckFront$Statement", "is", "I", false)
def ty_S : Nat → FieldType := fun k => match k with
  | 0 => (.array .char)
  | 1 => (.array .int)
  | 2 => (.array .int)
  | 3 => (.array .int)
  | 4 => .int
  | 5 => .int
  | 6 => .boolean
  | 7 => .int
  | _ => .int
theorem nm_S : ∀ a, a < 9 → ∀ b, b < 9 → a ≠ b → (T_S a).2.1 ≠ (T_S b).2.1 := by decide +kernel
theorem tk_S : ∀ k, k < 9 → parseFieldDescriptor (T_S k).2.2.1 = some (ty_S k) := by decide +kernel
theorem uw0_S : ∀ k, k < 9 → u_lay "DeckFront$Statement" T_S k ∈ wG := fun k hk => wg_in (by revert hk; revert k; decide +kernel) (by revert hk; revert k; decide +kernel)
theorem uw_S {a : Cond} : ∀ w ∈ u_ws "DeckFront$Statement" T_S 9, w ∈ a :: wG := fun w hw => by
  obtain ⟨k, hk, rfl⟩ := List.mem_map.mp hw
  exact cG (uw0_S k (List.mem_range.mp hk))
def T_U : u_T := fun k => match k with
  | 0 => ("DeckFront$Structure", "open", "[I", true)
  | 1 => ("DeckFront$Structure", "depth", "I", false)
  | 2 => ("DeckFront$Structure", "found", "I", false)
  | _ => ("DeckFront$Structure", "place", "I", false)
def ty_U : Nat → FieldType := fun k => match k with
  | 0 => (.array .int)
  | 1 => .int
  | 2 => .int
  | _ => .int
theorem nm_U : ∀ a, a < 4 → ∀ b, b < 4 → a ≠ b → (T_U a).2.1 ≠ (T_U b).2.1 := by decide +kernel
theorem tk_U : ∀ k, k < 4 → parseFieldDescriptor (T_U k).2.2.1 = some (ty_U k) := by decide +kernel
theorem uw0_U : ∀ k, k < 4 → u_lay "DeckFront$Structure" T_U k ∈ wG := fun k hk => wg_in (by revert hk; revert k; decide +kernel) (by revert hk; revert k; decide +kernel)
theorem uw_U {a : Cond} : ∀ w ∈ u_ws "DeckFront$Structure" T_U 4, w ∈ a :: wG := fun w hw => by
  obtain ⟨k, hk, rfl⟩ := List.mem_map.mp hw
  exact cG (uw0_U k (List.mem_range.mp hk))
def T_D : u_T := fun k => match k with
  | 0 => ("DeckFront", "written", "LDeckFront$Card;", true)
  | 1 => ("DeckFront", "deck", "LDeckFront$Deck;", true)
  | _ => ("DeckFront", "structure", "LDeckFront$Structure;", true)
def ty_D : Nat → FieldType := fun k => match k with
  | 0 => (.object "DeckFront$Card")
  | 1 => (.object "DeckFront$Deck")
  | _ => (.object "DeckFront$Structure")
theorem nm_D : ∀ a, a < 3 → ∀ b, b < 3 → a ≠ b → (T_D a).2.1 ≠ (T_D b).2.1 := by decide +kernel
theorem tk_D : ∀ k, k < 3 → parseFieldDescriptor (T_D k).2.2.1 = some (ty_D k) := by decide +kernel
theorem uw0_D : ∀ k, k < 3 → u_lay "DeckFront" T_D k ∈ wG := fun k hk => wg_in (by revert hk; revert k; decide +kernel) (by revert hk; revert k; decide +kernel)
theorem uw_D {a : Cond} : ∀ w ∈ u_ws "DeckFront" T_D 3, w ∈ a :: wG := fun w hw => by
  obtain ⟨k, hk, rfl⟩ := List.mem_map.mp hw
  exact cG (uw0_D k (List.mem_range.mp hk))
def T_M : u_T := fun k => match k with
  | 0 => ("DeckFrontModel", "thrown", "I", false)
  | 1 => ("DeckFrontModel", "typed", "I", false)
  | 2 => ("DeckFrontModel", "card", "[C", true)
  | 3 => ("DeckFrontModel", "statements", "I", false)
  | 4 => ("DeckFrontModel", "labels", "[I", true)
  | 5 => ("DeckFrontModel", "sizes", "[I", true)
  | 6 => ("DeckFrontModel", "texts", "[C", true)
  | 7 => ("DeckFrontModel", "begin", "I", false)
  | 8 => ("DeckFrontModel", "end", "I", false)
  | 9 => ("DeckFrontModel", "p", "I", false)
  | 10 => ("DeckFrontModel", "shown", "I", false)
  | 11 => ("DeckFrontModel", "show", "[C", true)
  | 12 => ("DeckFrontModel", "names", "I", false)
  | 13 => ("DeckFrontModel", "nameOf", "[J", true)
  | 14 => ("DeckFrontModel", "useOf", "[I", true)
  | 15 => ("DeckFrontModel", "typeOf", "[I", true)
  | 16 => ("DeckFrontModel", "aims", "I", false)
  | 17 => ("DeckFrontModel", "aim", "[I", true)
  | 18 => ("DeckFrontModel", "parts", "I", false)
  | 19 => ("DeckFrontModel", "from", "[I", true)
  | 20 => ("DeckFrontModel", "to", "[I", true)
  | 21 => ("DeckFrontModel", "left", "[I", true)
  | 22 => ("DeckFrontModel", "right", "[I", true)
  | 23 => ("DeckFrontModel", "next", "[I", true)
  | 24 => ("DeckFrontModel", "sort", "[I", true)
  | 25 => ("DeckFrontModel", "values", "I", false)
  | 26 => ("DeckFrontModel", "pile", "[I", true)
  | 27 => ("DeckFrontModel", "signs", "I", false)
  | 28 => ("DeckFrontModel", "binds", "[I", true)
  | 29 => ("DeckFrontModel", "signFrom", "[I", true)
  | 30 => ("DeckFrontModel", "signTo", "[I", true)
  | 31 => ("DeckFrontModel", "before", "[Z", true)
  | 32 => ("DeckFrontModel", "writes", "[I", true)
  | 33 => ("DeckFrontModel", "open", "I", false)
  | 34 => ("DeckFrontModel", "opened", "[I", true)
  | _ => ("DeckFrontModel", "hadElse", "[Z", true)
def ty_M : Nat → FieldType := fun k => match k with
  | 0 => .int
  | 1 => .int
  | 2 => (.array .char)
  | 3 => .int
  | 4 => (.array .int)
  | 5 => (.array .int)
  | 6 => (.array .char)
  | 7 => .int
  | 8 => .int
  | 9 => .int
  | 10 => .int
  | 11 => (.array .char)
  | 12 => .int
  | 13 => (.array .long)
  | 14 => (.array .int)
  | 15 => (.array .int)
  | 16 => .int
  | 17 => (.array .int)
  | 18 => .int
  | 19 => (.array .int)
  | 20 => (.array .int)
  | 21 => (.array .int)
  | 22 => (.array .int)
  | 23 => (.array .int)
  | 24 => (.array .int)
  | 25 => .int
  | 26 => (.array .int)
  | 27 => .int
  | 28 => (.array .int)
  | 29 => (.array .int)
  | 30 => (.array .int)
  | 31 => (.array .boolean)
  | 32 => (.array .int)
  | 33 => .int
  | 34 => (.array .int)
  | _ => (.array .boolean)
theorem nm_M : ∀ a, a < 36 → ∀ b, b < 36 → a ≠ b → (T_M a).2.1 ≠ (T_M b).2.1 := by decide +kernel
theorem tk_M : ∀ k, k < 36 → parseFieldDescriptor (T_M k).2.2.1 = some (ty_M k) := by decide +kernel
theorem uw0_M : ∀ k, k < 36 → u_lay "DeckFrontModel" T_M k ∈ wG := fun k hk => wg_in (by revert hk; revert k; decide +kernel) (by revert hk; revert k; decide +kernel)
theorem uw_M {a : Cond} : ∀ w ∈ u_ws "DeckFrontModel" T_M 36, w ∈ a :: wG := fun w hw => by
  obtain ⟨k, hk, rfl⟩ := List.mem_map.mp hw
  exact cG (uw0_M k (List.mem_range.mp hk))
abbrev clX : List vw_C := [("DeckFront$Card", T_C, 2), ("DeckFront$Deck", T_K, 2), ("DeckFront$Statement", T_S, 9), ("DeckFront$Structure", T_U, 4), ("DeckFront", T_D, 3), ("DeckFrontModel", T_M, 36)]
abbrev tysX (cs : Nat → ClassId) : List (ClassId × FieldType) := [(cs 0, .int), (cs 1, .char), (cs 2, .long), (cs 3, .boolean), (cs 4, .object "DeckFront$Statement"), (cs 5, .byte)]
theorem fw_C_1 : xFw clX 0 1 .int := ⟨_, _, _, ty_C, rfl, tk_C, nm_C, rfl, by decide +kernel⟩
theorem fw_K_1 : xFw clX 1 1 .int := ⟨_, _, _, ty_K, rfl, tk_K, nm_K, rfl, by decide +kernel⟩
theorem fw_S_4 : xFw clX 2 4 .int := ⟨_, _, _, ty_S, rfl, tk_S, nm_S, rfl, by decide +kernel⟩
theorem fw_S_5 : xFw clX 2 5 .int := ⟨_, _, _, ty_S, rfl, tk_S, nm_S, rfl, by decide +kernel⟩
theorem fw_S_6 : xFw clX 2 6 .boolean := ⟨_, _, _, ty_S, rfl, tk_S, nm_S, rfl, by decide +kernel⟩
theorem fw_S_7 : xFw clX 2 7 .int := ⟨_, _, _, ty_S, rfl, tk_S, nm_S, rfl, by decide +kernel⟩
theorem fw_S_8 : xFw clX 2 8 .int := ⟨_, _, _, ty_S, rfl, tk_S, nm_S, rfl, by decide +kernel⟩
theorem fw_U_1 : xFw clX 3 1 .int := ⟨_, _, _, ty_U, rfl, tk_U, nm_U, rfl, by decide +kernel⟩
theorem fw_U_2 : xFw clX 3 2 .int := ⟨_, _, _, ty_U, rfl, tk_U, nm_U, rfl, by decide +kernel⟩
theorem fw_U_3 : xFw clX 3 3 .int := ⟨_, _, _, ty_U, rfl, tk_U, nm_U, rfl, by decide +kernel⟩
theorem fw_M_0 : xFw clX 5 0 .int := ⟨_, _, _, ty_M, rfl, tk_M, nm_M, rfl, by decide +kernel⟩
theorem fw_M_1 : xFw clX 5 1 .int := ⟨_, _, _, ty_M, rfl, tk_M, nm_M, rfl, by decide +kernel⟩
theorem fw_M_3 : xFw clX 5 3 .int := ⟨_, _, _, ty_M, rfl, tk_M, nm_M, rfl, by decide +kernel⟩
theorem fw_M_7 : xFw clX 5 7 .int := ⟨_, _, _, ty_M, rfl, tk_M, nm_M, rfl, by decide +kernel⟩
theorem fw_M_8 : xFw clX 5 8 .int := ⟨_, _, _, ty_M, rfl, tk_M, nm_M, rfl, by decide +kernel⟩
theorem fw_M_9 : xFw clX 5 9 .int := ⟨_, _, _, ty_M, rfl, tk_M, nm_M, rfl, by decide +kernel⟩
theorem fw_M_10 : xFw clX 5 10 .int := ⟨_, _, _, ty_M, rfl, tk_M, nm_M, rfl, by decide +kernel⟩
theorem fw_M_12 : xFw clX 5 12 .int := ⟨_, _, _, ty_M, rfl, tk_M, nm_M, rfl, by decide +kernel⟩
theorem fw_M_16 : xFw clX 5 16 .int := ⟨_, _, _, ty_M, rfl, tk_M, nm_M, rfl, by decide +kernel⟩
theorem fw_M_18 : xFw clX 5 18 .int := ⟨_, _, _, ty_M, rfl, tk_M, nm_M, rfl, by decide +kernel⟩
theorem fw_M_25 : xFw clX 5 25 .int := ⟨_, _, _, ty_M, rfl, tk_M, nm_M, rfl, by decide +kernel⟩
theorem fw_M_27 : xFw clX 5 27 .int := ⟨_, _, _, ty_M, rfl, tk_M, nm_M, rfl, by decide +kernel⟩
theorem fw_M_33 : xFw clX 5 33 .int := ⟨_, _, _, ty_M, rfl, tk_M, nm_M, rfl, by decide +kernel⟩
theorem f_C_9 {a : Cond} : xF clX (a :: wG) "DeckFront$Card" 9 0 0 := ⟨_, _, _, "DeckFront$Card", uw_C, rfl, by decide, cG tw_33, Or.inl rfl⟩
theorem f_T_39 {a : Cond} : xF clX (a :: wG) "DeckFront$Tape" 39 0 0 := ⟨_, _, _, "DeckFront$Card", uw_C, rfl, by decide, cG tw_34, Or.inl rfl⟩
theorem f_C_19 {a : Cond} : xF clX (a :: wG) "DeckFront$Card" 19 0 1 := ⟨_, _, _, "DeckFront$Card", uw_C, rfl, by decide, cG tw_35, Or.inl rfl⟩
theorem f_T_36 {a : Cond} : xF clX (a :: wG) "DeckFront$Tape" 36 0 1 := ⟨_, _, _, "DeckFront$Card", uw_C, rfl, by decide, cG tw_36, Or.inl rfl⟩
theorem f_D_38 {a : Cond} : xF clX (a :: wG) "DeckFront" 38 0 1 := ⟨_, _, _, "DeckFront$Card", uw_C, rfl, by decide, cG tw_37, Or.inl rfl⟩
theorem f_U_43 {a : Cond} : xF clX (a :: wG) "DeckFront$Structure" 43 2 7 := ⟨_, _, _, "DeckFront$Statement", uw_S, rfl, by decide, cG tw_60, Or.inl rfl⟩
theorem f_K_45 {a : Cond} : xF clX (a :: wG) "DeckFront$Deck" 45 2 7 := ⟨_, _, _, "DeckFront$Statement", uw_S, rfl, by decide, cG tw_61, Or.inl rfl⟩
theorem f_D_66 {a : Cond} : xF clX (a :: wG) "DeckFront" 66 2 7 := ⟨_, _, _, "DeckFront$Statement", uw_S, rfl, by decide, cG tw_62, Or.inl rfl⟩
theorem f_S_22 {a : Cond} : xF clX (a :: wG) "DeckFront$Statement" 22 2 8 := ⟨_, _, _, "DeckFront$Statement", uw_S, rfl, by decide, cG tw_63, Or.inl rfl⟩
theorem f_U_38 {a : Cond} : xF clX (a :: wG) "DeckFront$Structure" 38 2 8 := ⟨_, _, _, "DeckFront$Statement", uw_S, rfl, by decide, cG tw_64, Or.inl rfl⟩
theorem f_K_63 {a : Cond} : xF clX (a :: wG) "DeckFront$Deck" 63 2 8 := ⟨_, _, _, "DeckFront$Statement", uw_S, rfl, by decide, cG tw_65, Or.inl rfl⟩
theorem f_D_69 {a : Cond} : xF clX (a :: wG) "DeckFront" 69 2 8 := ⟨_, _, _, "DeckFront$Statement", uw_S, rfl, by decide, cG tw_66, Or.inl rfl⟩
theorem f_T_9 {a : Cond} : xF clX (a :: wG) "DeckFront$Tape" 9 2 0 := ⟨_, _, _, "DeckFront$Tape", uw_S, rfl, by decide, cG tw_67, Or.inl rfl⟩
theorem f_S_190 {a : Cond} : xF clX (a :: wG) "DeckFront$Statement" 190 2 0 := ⟨_, _, _, "DeckFront$Statement", uw_S, rfl, by decide, cG tw_68, Or.inr (cG tw_69)⟩
theorem f_T_15 {a : Cond} : xF clX (a :: wG) "DeckFront$Tape" 15 2 1 := ⟨_, _, _, "DeckFront$Tape", uw_S, rfl, by decide, cG tw_70, Or.inl rfl⟩
theorem f_S_130 {a : Cond} : xF clX (a :: wG) "DeckFront$Statement" 130 2 1 := ⟨_, _, _, "DeckFront$Statement", uw_S, rfl, by decide, cG tw_71, Or.inr (cG tw_72)⟩
theorem f_T_19 {a : Cond} : xF clX (a :: wG) "DeckFront$Tape" 19 2 2 := ⟨_, _, _, "DeckFront$Tape", uw_S, rfl, by decide, cG tw_73, Or.inl rfl⟩
theorem f_T_22 {a : Cond} : xF clX (a :: wG) "DeckFront$Tape" 22 2 3 := ⟨_, _, _, "DeckFront$Tape", uw_S, rfl, by decide, cG tw_74, Or.inl rfl⟩
theorem f_U_89 {a : Cond} : xF clX (a :: wG) "DeckFront$Structure" 89 2 3 := ⟨_, _, _, "DeckFront$Statement", uw_S, rfl, by decide, cG tw_75, Or.inr (cG tw_76)⟩
theorem f_S_185 {a : Cond} : xF clX (a :: wG) "DeckFront$Statement" 185 2 3 := ⟨_, _, _, "DeckFront$Statement", uw_S, rfl, by decide, cG tw_77, Or.inr (cG tw_76)⟩
theorem f_T_25 {a : Cond} : xF clX (a :: wG) "DeckFront$Tape" 25 2 4 := ⟨_, _, _, "DeckFront$Tape", uw_S, rfl, by decide, cG tw_78, Or.inl rfl⟩
theorem f_S_9 {a : Cond} : xF clX (a :: wG) "DeckFront$Statement" 9 2 4 := ⟨_, _, _, "DeckFront$Statement", uw_S, rfl, by decide, cG tw_79, Or.inr (cG tw_80)⟩
theorem f_U_86 {a : Cond} : xF clX (a :: wG) "DeckFront$Structure" 86 2 4 := ⟨_, _, _, "DeckFront$Statement", uw_S, rfl, by decide, cG tw_81, Or.inr (cG tw_80)⟩
theorem f_S_15 {a : Cond} : xF clX (a :: wG) "DeckFront$Statement" 15 2 5 := ⟨_, _, _, "DeckFront$Statement", uw_S, rfl, by decide, cG tw_82, Or.inr (cG tw_83)⟩
theorem f_T_29 {a : Cond} : xF clX (a :: wG) "DeckFront$Tape" 29 2 5 := ⟨_, _, _, "DeckFront$Tape", uw_S, rfl, by decide, cG tw_84, Or.inl rfl⟩
theorem f_T_32 {a : Cond} : xF clX (a :: wG) "DeckFront$Tape" 32 2 6 := ⟨_, _, _, "DeckFront$Tape", uw_S, rfl, by decide, cG tw_85, Or.inl rfl⟩
theorem f_K_11 {a : Cond} : xF clX (a :: wG) "DeckFront$Deck" 11 1 0 := ⟨_, _, _, "DeckFront$Deck", uw_K, rfl, by decide, cG tw_106, Or.inl rfl⟩
theorem f_U_34 {a : Cond} : xF clX (a :: wG) "DeckFront$Structure" 34 1 0 := ⟨_, _, _, "DeckFront$Deck", uw_K, rfl, by decide, cG tw_107, Or.inl rfl⟩
theorem f_K_18 {a : Cond} : xF clX (a :: wG) "DeckFront$Deck" 18 1 1 := ⟨_, _, _, "DeckFront$Deck", uw_K, rfl, by decide, cG tw_108, Or.inl rfl⟩
theorem f_U_25 {a : Cond} : xF clX (a :: wG) "DeckFront$Structure" 25 1 1 := ⟨_, _, _, "DeckFront$Deck", uw_K, rfl, by decide, cG tw_109, Or.inl rfl⟩
theorem f_D_63 {a : Cond} : xF clX (a :: wG) "DeckFront" 63 1 1 := ⟨_, _, _, "DeckFront$Deck", uw_K, rfl, by decide, cG tw_110, Or.inl rfl⟩
theorem f_U_9 {a : Cond} : xF clX (a :: wG) "DeckFront$Structure" 9 3 0 := ⟨_, _, _, "DeckFront$Structure", uw_U, rfl, by decide, cG tw_122, Or.inl rfl⟩
theorem f_U_15 {a : Cond} : xF clX (a :: wG) "DeckFront$Structure" 15 3 1 := ⟨_, _, _, "DeckFront$Structure", uw_U, rfl, by decide, cG tw_123, Or.inl rfl⟩
theorem f_U_19 {a : Cond} : xF clX (a :: wG) "DeckFront$Structure" 19 3 2 := ⟨_, _, _, "DeckFront$Structure", uw_U, rfl, by decide, cG tw_124, Or.inl rfl⟩
theorem f_D_91 {a : Cond} : xF clX (a :: wG) "DeckFront" 91 3 2 := ⟨_, _, _, "DeckFront$Structure", uw_U, rfl, by decide, cG tw_125, Or.inl rfl⟩
theorem f_U_22 {a : Cond} : xF clX (a :: wG) "DeckFront$Structure" 22 3 3 := ⟨_, _, _, "DeckFront$Structure", uw_U, rfl, by decide, cG tw_126, Or.inl rfl⟩
theorem f_D_94 {a : Cond} : xF clX (a :: wG) "DeckFront" 94 3 3 := ⟨_, _, _, "DeckFront$Structure", uw_U, rfl, by decide, cG tw_127, Or.inl rfl⟩
theorem f_D_10 {a : Cond} : xF clX (a :: wG) "DeckFront" 10 4 0 := ⟨_, _, _, "DeckFront", uw_D, rfl, by decide, cG tw_137, Or.inl rfl⟩
theorem f_D_19 {a : Cond} : xF clX (a :: wG) "DeckFront" 19 4 1 := ⟨_, _, _, "DeckFront", uw_D, rfl, by decide, cG tw_138, Or.inl rfl⟩
theorem f_D_26 {a : Cond} : xF clX (a :: wG) "DeckFront" 26 4 2 := ⟨_, _, _, "DeckFront", uw_D, rfl, by decide, cG tw_139, Or.inl rfl⟩
theorem f_M_82 {a : Cond} : xF clX (a :: wG) "DeckFrontModel" 82 5 0 := ⟨_, _, _, "DeckFrontModel", uw_M, rfl, by decide, cG tw_749, Or.inl rfl⟩
theorem f_M_96 {a : Cond} : xF clX (a :: wG) "DeckFrontModel" 96 5 1 := ⟨_, _, _, "DeckFrontModel", uw_M, rfl, by decide, cG tw_750, Or.inl rfl⟩
theorem f_M_7 {a : Cond} : xF clX (a :: wG) "DeckFrontModel" 7 5 2 := ⟨_, _, _, "DeckFrontModel", uw_M, rfl, by decide, cG tw_751, Or.inl rfl⟩
theorem f_M_99 {a : Cond} : xF clX (a :: wG) "DeckFrontModel" 99 5 3 := ⟨_, _, _, "DeckFrontModel", uw_M, rfl, by decide, cG tw_752, Or.inl rfl⟩
theorem f_M_13 {a : Cond} : xF clX (a :: wG) "DeckFrontModel" 13 5 4 := ⟨_, _, _, "DeckFrontModel", uw_M, rfl, by decide, cG tw_753, Or.inl rfl⟩
theorem f_M_17 {a : Cond} : xF clX (a :: wG) "DeckFrontModel" 17 5 5 := ⟨_, _, _, "DeckFrontModel", uw_M, rfl, by decide, cG tw_754, Or.inl rfl⟩
theorem f_M_20 {a : Cond} : xF clX (a :: wG) "DeckFrontModel" 20 5 6 := ⟨_, _, _, "DeckFrontModel", uw_M, rfl, by decide, cG tw_755, Or.inl rfl⟩
theorem f_M_319 {a : Cond} : xF clX (a :: wG) "DeckFrontModel" 319 5 7 := ⟨_, _, _, "DeckFrontModel", uw_M, rfl, by decide, cG tw_756, Or.inl rfl⟩
theorem f_M_116 {a : Cond} : xF clX (a :: wG) "DeckFrontModel" 116 5 8 := ⟨_, _, _, "DeckFrontModel", uw_M, rfl, by decide, cG tw_757, Or.inl rfl⟩
theorem f_M_126 {a : Cond} : xF clX (a :: wG) "DeckFrontModel" 126 5 9 := ⟨_, _, _, "DeckFrontModel", uw_M, rfl, by decide, cG tw_758, Or.inl rfl⟩
theorem f_M_119 {a : Cond} : xF clX (a :: wG) "DeckFrontModel" 119 5 10 := ⟨_, _, _, "DeckFrontModel", uw_M, rfl, by decide, cG tw_759, Or.inl rfl⟩
theorem f_M_23 {a : Cond} : xF clX (a :: wG) "DeckFrontModel" 23 5 11 := ⟨_, _, _, "DeckFrontModel", uw_M, rfl, by decide, cG tw_760, Or.inl rfl⟩
theorem f_M_138 {a : Cond} : xF clX (a :: wG) "DeckFrontModel" 138 5 12 := ⟨_, _, _, "DeckFrontModel", uw_M, rfl, by decide, cG tw_761, Or.inl rfl⟩
theorem f_M_26 {a : Cond} : xF clX (a :: wG) "DeckFrontModel" 26 5 13 := ⟨_, _, _, "DeckFrontModel", uw_M, rfl, by decide, cG tw_762, Or.inl rfl⟩
theorem f_M_30 {a : Cond} : xF clX (a :: wG) "DeckFrontModel" 30 5 14 := ⟨_, _, _, "DeckFrontModel", uw_M, rfl, by decide, cG tw_763, Or.inl rfl⟩
theorem f_M_33 {a : Cond} : xF clX (a :: wG) "DeckFrontModel" 33 5 15 := ⟨_, _, _, "DeckFrontModel", uw_M, rfl, by decide, cG tw_764, Or.inl rfl⟩
theorem f_M_244 {a : Cond} : xF clX (a :: wG) "DeckFrontModel" 244 5 16 := ⟨_, _, _, "DeckFrontModel", uw_M, rfl, by decide, cG tw_765, Or.inl rfl⟩
theorem f_M_36 {a : Cond} : xF clX (a :: wG) "DeckFrontModel" 36 5 17 := ⟨_, _, _, "DeckFrontModel", uw_M, rfl, by decide, cG tw_766, Or.inl rfl⟩
theorem f_M_173 {a : Cond} : xF clX (a :: wG) "DeckFrontModel" 173 5 18 := ⟨_, _, _, "DeckFrontModel", uw_M, rfl, by decide, cG tw_767, Or.inl rfl⟩
theorem f_M_39 {a : Cond} : xF clX (a :: wG) "DeckFrontModel" 39 5 19 := ⟨_, _, _, "DeckFrontModel", uw_M, rfl, by decide, cG tw_768, Or.inl rfl⟩
theorem f_M_42 {a : Cond} : xF clX (a :: wG) "DeckFrontModel" 42 5 20 := ⟨_, _, _, "DeckFrontModel", uw_M, rfl, by decide, cG tw_769, Or.inl rfl⟩
theorem f_M_45 {a : Cond} : xF clX (a :: wG) "DeckFrontModel" 45 5 21 := ⟨_, _, _, "DeckFrontModel", uw_M, rfl, by decide, cG tw_770, Or.inl rfl⟩
theorem f_M_48 {a : Cond} : xF clX (a :: wG) "DeckFrontModel" 48 5 22 := ⟨_, _, _, "DeckFrontModel", uw_M, rfl, by decide, cG tw_771, Or.inl rfl⟩
theorem f_M_51 {a : Cond} : xF clX (a :: wG) "DeckFrontModel" 51 5 23 := ⟨_, _, _, "DeckFrontModel", uw_M, rfl, by decide, cG tw_772, Or.inl rfl⟩
theorem f_M_54 {a : Cond} : xF clX (a :: wG) "DeckFrontModel" 54 5 24 := ⟨_, _, _, "DeckFrontModel", uw_M, rfl, by decide, cG tw_773, Or.inl rfl⟩
theorem f_M_176 {a : Cond} : xF clX (a :: wG) "DeckFrontModel" 176 5 25 := ⟨_, _, _, "DeckFrontModel", uw_M, rfl, by decide, cG tw_774, Or.inl rfl⟩
theorem f_M_57 {a : Cond} : xF clX (a :: wG) "DeckFrontModel" 57 5 26 := ⟨_, _, _, "DeckFrontModel", uw_M, rfl, by decide, cG tw_775, Or.inl rfl⟩
theorem f_M_179 {a : Cond} : xF clX (a :: wG) "DeckFrontModel" 179 5 27 := ⟨_, _, _, "DeckFrontModel", uw_M, rfl, by decide, cG tw_776, Or.inl rfl⟩
theorem f_M_60 {a : Cond} : xF clX (a :: wG) "DeckFrontModel" 60 5 28 := ⟨_, _, _, "DeckFrontModel", uw_M, rfl, by decide, cG tw_777, Or.inl rfl⟩
theorem f_M_63 {a : Cond} : xF clX (a :: wG) "DeckFrontModel" 63 5 29 := ⟨_, _, _, "DeckFrontModel", uw_M, rfl, by decide, cG tw_778, Or.inl rfl⟩
theorem f_M_66 {a : Cond} : xF clX (a :: wG) "DeckFrontModel" 66 5 30 := ⟨_, _, _, "DeckFrontModel", uw_M, rfl, by decide, cG tw_779, Or.inl rfl⟩
theorem f_M_69 {a : Cond} : xF clX (a :: wG) "DeckFrontModel" 69 5 31 := ⟨_, _, _, "DeckFrontModel", uw_M, rfl, by decide, cG tw_780, Or.inl rfl⟩
theorem f_M_73 {a : Cond} : xF clX (a :: wG) "DeckFrontModel" 73 5 32 := ⟨_, _, _, "DeckFrontModel", uw_M, rfl, by decide, cG tw_781, Or.inl rfl⟩
theorem f_M_336 {a : Cond} : xF clX (a :: wG) "DeckFrontModel" 336 5 33 := ⟨_, _, _, "DeckFrontModel", uw_M, rfl, by decide, cG tw_782, Or.inl rfl⟩
theorem f_M_76 {a : Cond} : xF clX (a :: wG) "DeckFrontModel" 76 5 34 := ⟨_, _, _, "DeckFrontModel", uw_M, rfl, by decide, cG tw_783, Or.inl rfl⟩
theorem f_M_79 {a : Cond} : xF clX (a :: wG) "DeckFrontModel" 79 5 35 := ⟨_, _, _, "DeckFrontModel", uw_M, rfl, by decide, cG tw_784, Or.inl rfl⟩
/-! the reference's state: whole numbers by their field, arrays by their field and place, the names -/
abbrev MS : Type := (Nat → Int32) × (Nat → Nat → Int32) × (Nat → Int64)
def gI (u : MS) (k : Nat) : Int32 := u.1 k
def gA (u : MS) (k : Nat) : Nat → Int32 := u.2.1 k
def gL (u : MS) : Nat → Int64 := u.2.2
def sI (u : MS) (k : Nat) (v : Int32) : MS := (va_up u.1 k v, u.2)
def sA (u : MS) (k i : Nat) (v : Int32) : MS := (u.1, va_up u.2.1 k (upd (u.2.1 k) i v), u.2.2)
def sL (u : MS) (i : Nat) (v : Int64) : MS := (u.1, u.2.1, vp_updL u.2.2 i v)
def fsM (a : Nat → Nat) (u : MS) : List Value := [.int (gI u 0), .int (gI u 1), .ref (a 2), .int (gI u 3), .ref (a 4), .ref (a 5), .ref (a 6), .int (gI u 7), .int (gI u 8), .int (gI u 9), .int (gI u 10), .ref (a 11), .int (gI u 12), .ref (a 13), .ref (a 14), .ref (a 15), .int (gI u 16), .ref (a 17), .int (gI u 18), .ref (a 19), .ref (a 20), .ref (a 21), .ref (a 22), .ref (a 23), .ref (a 24), .int (gI u 25), .ref (a 26), .int (gI u 27), .ref (a 28), .ref (a 29), .ref (a 30), .ref (a 31), .ref (a 32), .int (gI u 33), .ref (a 34), .ref (a 35)]
def wdM (o : Nat) (a : Nat → Nat) (cs : Nat → ClassId) (u : MS) : va_W := (o, .inr (5, fsM a u)) :: [(a 2, .inl (cs 1, 72, .inl (gA u 2))), (a 4, .inl (cs 0, 24, .inl (gA u 4))), (a 5, .inl (cs 0, 24, .inl (gA u 5))), (a 6, .inl (cs 1, 1920, .inl (gA u 6))), (a 11, .inl (cs 1, 600, .inl (gA u 11))), (a 13, .inl (cs 2, 90, .inr (.inl (gL u)))), (a 14, .inl (cs 0, 90, .inl (gA u 14))), (a 15, .inl (cs 0, 90, .inl (gA u 15))), (a 17, .inl (cs 0, 90, .inl (gA u 17))), (a 19, .inl (cs 0, 100, .inl (gA u 19))), (a 20, .inl (cs 0, 100, .inl (gA u 20))), (a 21, .inl (cs 0, 100, .inl (gA u 21))), (a 22, .inl (cs 0, 100, .inl (gA u 22))), (a 23, .inl (cs 0, 100, .inl (gA u 23))), (a 24, .inl (cs 0, 100, .inl (gA u 24))), (a 26, .inl (cs 0, 100, .inl (gA u 26))), (a 28, .inl (cs 0, 100, .inl (gA u 28))), (a 29, .inl (cs 0, 100, .inl (gA u 29))), (a 30, .inl (cs 0, 100, .inl (gA u 30))), (a 31, .inl (cs 3, 100, .inl (gA u 31))), (a 32, .inl (cs 0, 400, .inl (gA u 32))), (a 34, .inl (cs 0, 24, .inl (gA u 34))), (a 35, .inl (cs 3, 24, .inl (gA u 35)))]
section
variable (o : Nat) (a : Nat → Nat) (cs : Nat → ClassId) (u : MS)
theorem eM_o : (wdM o a cs u)[0]? = some (o, .inr (5, fsM a u)) := rfl
theorem sM_0 (v : Int32) : (wdM o a cs u).set 0 (o, .inr (5, (fsM a u).set 0 (.int v))) = wdM o a cs (sI u 0 v) := rfl
theorem sM_1 (v : Int32) : (wdM o a cs u).set 0 (o, .inr (5, (fsM a u).set 1 (.int v))) = wdM o a cs (sI u 1 v) := rfl
theorem eM_2 : (wdM o a cs u)[1]? = some (a 2, .inl (cs 1, 72, .inl (gA u 2))) := rfl
theorem sM_2 (i : Nat) (v : Int32) : (wdM o a cs u).set 1 (a 2, .inl (cs 1, 72, .inl (upd (gA u 2) i v))) = wdM o a cs (sA u 2 i v) := rfl
theorem sM_3 (v : Int32) : (wdM o a cs u).set 0 (o, .inr (5, (fsM a u).set 3 (.int v))) = wdM o a cs (sI u 3 v) := rfl
theorem eM_4 : (wdM o a cs u)[2]? = some (a 4, .inl (cs 0, 24, .inl (gA u 4))) := rfl
theorem sM_4 (i : Nat) (v : Int32) : (wdM o a cs u).set 2 (a 4, .inl (cs 0, 24, .inl (upd (gA u 4) i v))) = wdM o a cs (sA u 4 i v) := rfl
theorem eM_5 : (wdM o a cs u)[3]? = some (a 5, .inl (cs 0, 24, .inl (gA u 5))) := rfl
theorem sM_5 (i : Nat) (v : Int32) : (wdM o a cs u).set 3 (a 5, .inl (cs 0, 24, .inl (upd (gA u 5) i v))) = wdM o a cs (sA u 5 i v) := rfl
theorem eM_6 : (wdM o a cs u)[4]? = some (a 6, .inl (cs 1, 1920, .inl (gA u 6))) := rfl
theorem sM_6 (i : Nat) (v : Int32) : (wdM o a cs u).set 4 (a 6, .inl (cs 1, 1920, .inl (upd (gA u 6) i v))) = wdM o a cs (sA u 6 i v) := rfl
theorem sM_7 (v : Int32) : (wdM o a cs u).set 0 (o, .inr (5, (fsM a u).set 7 (.int v))) = wdM o a cs (sI u 7 v) := rfl
theorem sM_8 (v : Int32) : (wdM o a cs u).set 0 (o, .inr (5, (fsM a u).set 8 (.int v))) = wdM o a cs (sI u 8 v) := rfl
theorem sM_9 (v : Int32) : (wdM o a cs u).set 0 (o, .inr (5, (fsM a u).set 9 (.int v))) = wdM o a cs (sI u 9 v) := rfl
theorem sM_10 (v : Int32) : (wdM o a cs u).set 0 (o, .inr (5, (fsM a u).set 10 (.int v))) = wdM o a cs (sI u 10 v) := rfl
theorem eM_11 : (wdM o a cs u)[5]? = some (a 11, .inl (cs 1, 600, .inl (gA u 11))) := rfl
theorem sM_11 (i : Nat) (v : Int32) : (wdM o a cs u).set 5 (a 11, .inl (cs 1, 600, .inl (upd (gA u 11) i v))) = wdM o a cs (sA u 11 i v) := rfl
theorem sM_12 (v : Int32) : (wdM o a cs u).set 0 (o, .inr (5, (fsM a u).set 12 (.int v))) = wdM o a cs (sI u 12 v) := rfl
theorem eM_13 : (wdM o a cs u)[6]? = some (a 13, .inl (cs 2, 90, .inr (.inl (gL u)))) := rfl
theorem sM_13 (i : Nat) (v : Int64) : (wdM o a cs u).set 6 (a 13, .inl (cs 2, 90, .inr (.inl (vp_updL (gL u) i v)))) = wdM o a cs (sL u i v) := rfl
theorem eM_14 : (wdM o a cs u)[7]? = some (a 14, .inl (cs 0, 90, .inl (gA u 14))) := rfl
theorem sM_14 (i : Nat) (v : Int32) : (wdM o a cs u).set 7 (a 14, .inl (cs 0, 90, .inl (upd (gA u 14) i v))) = wdM o a cs (sA u 14 i v) := rfl
theorem eM_15 : (wdM o a cs u)[8]? = some (a 15, .inl (cs 0, 90, .inl (gA u 15))) := rfl
theorem sM_15 (i : Nat) (v : Int32) : (wdM o a cs u).set 8 (a 15, .inl (cs 0, 90, .inl (upd (gA u 15) i v))) = wdM o a cs (sA u 15 i v) := rfl
theorem sM_16 (v : Int32) : (wdM o a cs u).set 0 (o, .inr (5, (fsM a u).set 16 (.int v))) = wdM o a cs (sI u 16 v) := rfl
theorem eM_17 : (wdM o a cs u)[9]? = some (a 17, .inl (cs 0, 90, .inl (gA u 17))) := rfl
theorem sM_17 (i : Nat) (v : Int32) : (wdM o a cs u).set 9 (a 17, .inl (cs 0, 90, .inl (upd (gA u 17) i v))) = wdM o a cs (sA u 17 i v) := rfl
theorem sM_18 (v : Int32) : (wdM o a cs u).set 0 (o, .inr (5, (fsM a u).set 18 (.int v))) = wdM o a cs (sI u 18 v) := rfl
theorem eM_19 : (wdM o a cs u)[10]? = some (a 19, .inl (cs 0, 100, .inl (gA u 19))) := rfl
theorem sM_19 (i : Nat) (v : Int32) : (wdM o a cs u).set 10 (a 19, .inl (cs 0, 100, .inl (upd (gA u 19) i v))) = wdM o a cs (sA u 19 i v) := rfl
theorem eM_20 : (wdM o a cs u)[11]? = some (a 20, .inl (cs 0, 100, .inl (gA u 20))) := rfl
theorem sM_20 (i : Nat) (v : Int32) : (wdM o a cs u).set 11 (a 20, .inl (cs 0, 100, .inl (upd (gA u 20) i v))) = wdM o a cs (sA u 20 i v) := rfl
theorem eM_21 : (wdM o a cs u)[12]? = some (a 21, .inl (cs 0, 100, .inl (gA u 21))) := rfl
theorem sM_21 (i : Nat) (v : Int32) : (wdM o a cs u).set 12 (a 21, .inl (cs 0, 100, .inl (upd (gA u 21) i v))) = wdM o a cs (sA u 21 i v) := rfl
theorem eM_22 : (wdM o a cs u)[13]? = some (a 22, .inl (cs 0, 100, .inl (gA u 22))) := rfl
theorem sM_22 (i : Nat) (v : Int32) : (wdM o a cs u).set 13 (a 22, .inl (cs 0, 100, .inl (upd (gA u 22) i v))) = wdM o a cs (sA u 22 i v) := rfl
theorem eM_23 : (wdM o a cs u)[14]? = some (a 23, .inl (cs 0, 100, .inl (gA u 23))) := rfl
theorem sM_23 (i : Nat) (v : Int32) : (wdM o a cs u).set 14 (a 23, .inl (cs 0, 100, .inl (upd (gA u 23) i v))) = wdM o a cs (sA u 23 i v) := rfl
theorem eM_24 : (wdM o a cs u)[15]? = some (a 24, .inl (cs 0, 100, .inl (gA u 24))) := rfl
theorem sM_24 (i : Nat) (v : Int32) : (wdM o a cs u).set 15 (a 24, .inl (cs 0, 100, .inl (upd (gA u 24) i v))) = wdM o a cs (sA u 24 i v) := rfl
theorem sM_25 (v : Int32) : (wdM o a cs u).set 0 (o, .inr (5, (fsM a u).set 25 (.int v))) = wdM o a cs (sI u 25 v) := rfl
theorem eM_26 : (wdM o a cs u)[16]? = some (a 26, .inl (cs 0, 100, .inl (gA u 26))) := rfl
theorem sM_26 (i : Nat) (v : Int32) : (wdM o a cs u).set 16 (a 26, .inl (cs 0, 100, .inl (upd (gA u 26) i v))) = wdM o a cs (sA u 26 i v) := rfl
theorem sM_27 (v : Int32) : (wdM o a cs u).set 0 (o, .inr (5, (fsM a u).set 27 (.int v))) = wdM o a cs (sI u 27 v) := rfl
theorem eM_28 : (wdM o a cs u)[17]? = some (a 28, .inl (cs 0, 100, .inl (gA u 28))) := rfl
theorem sM_28 (i : Nat) (v : Int32) : (wdM o a cs u).set 17 (a 28, .inl (cs 0, 100, .inl (upd (gA u 28) i v))) = wdM o a cs (sA u 28 i v) := rfl
theorem eM_29 : (wdM o a cs u)[18]? = some (a 29, .inl (cs 0, 100, .inl (gA u 29))) := rfl
theorem sM_29 (i : Nat) (v : Int32) : (wdM o a cs u).set 18 (a 29, .inl (cs 0, 100, .inl (upd (gA u 29) i v))) = wdM o a cs (sA u 29 i v) := rfl
theorem eM_30 : (wdM o a cs u)[19]? = some (a 30, .inl (cs 0, 100, .inl (gA u 30))) := rfl
theorem sM_30 (i : Nat) (v : Int32) : (wdM o a cs u).set 19 (a 30, .inl (cs 0, 100, .inl (upd (gA u 30) i v))) = wdM o a cs (sA u 30 i v) := rfl
theorem eM_31 : (wdM o a cs u)[20]? = some (a 31, .inl (cs 3, 100, .inl (gA u 31))) := rfl
theorem sM_31 (i : Nat) (v : Int32) : (wdM o a cs u).set 20 (a 31, .inl (cs 3, 100, .inl (upd (gA u 31) i v))) = wdM o a cs (sA u 31 i v) := rfl
theorem eM_32 : (wdM o a cs u)[21]? = some (a 32, .inl (cs 0, 400, .inl (gA u 32))) := rfl
theorem sM_32 (i : Nat) (v : Int32) : (wdM o a cs u).set 21 (a 32, .inl (cs 0, 400, .inl (upd (gA u 32) i v))) = wdM o a cs (sA u 32 i v) := rfl
theorem sM_33 (v : Int32) : (wdM o a cs u).set 0 (o, .inr (5, (fsM a u).set 33 (.int v))) = wdM o a cs (sI u 33 v) := rfl
theorem eM_34 : (wdM o a cs u)[22]? = some (a 34, .inl (cs 0, 24, .inl (gA u 34))) := rfl
theorem sM_34 (i : Nat) (v : Int32) : (wdM o a cs u).set 22 (a 34, .inl (cs 0, 24, .inl (upd (gA u 34) i v))) = wdM o a cs (sA u 34 i v) := rfl
theorem eM_35 : (wdM o a cs u)[23]? = some (a 35, .inl (cs 3, 24, .inl (gA u 35))) := rfl
theorem sM_35 (i : Nat) (v : Int32) : (wdM o a cs u).set 23 (a 35, .inl (cs 3, 24, .inl (upd (gA u 35) i v))) = wdM o a cs (sA u 35 i v) := rfl
end
end
section
abbrev y_M_isLetter : MethodName := ⟨"DeckFrontModel", "isLetter", "(I)Z"⟩
abbrev b_M_isLetter : ByteArray := prog_8_method_3_code
abbrev w_M_isLetter : List Cond := (Jvm.Cond.code ({ cls := "DeckFrontModel", name := "isLetter", desc := "(I)Z" } : Jvm.MethodName) prog_8_method_3_code (1 : Nat) (Option.some Jvm.ClassFile.FieldType.boolean)) :: wG
theorem d_M_isLetter_0 : decode b_M_isLetter 0 = .ok (.iload_n 0, 1) := by decide +kernel
theorem d_M_isLetter_1 : decode b_M_isLetter 1 = .ok (.bipush 65, 2) := by decide +kernel
theorem d_M_isLetter_3 : decode b_M_isLetter 3 = .ok (.if_icmp .lt 13, 3) := by decide +kernel
theorem d_M_isLetter_6 : decode b_M_isLetter 6 = .ok (.iload_n 0, 1) := by decide +kernel
theorem d_M_isLetter_7 : decode b_M_isLetter 7 = .ok (.bipush 90, 2) := by decide +kernel
theorem d_M_isLetter_9 : decode b_M_isLetter 9 = .ok (.if_icmp .gt 7, 3) := by decide +kernel
theorem d_M_isLetter_12 : decode b_M_isLetter 12 = .ok (.iconst 1, 1) := by decide +kernel
theorem d_M_isLetter_13 : decode b_M_isLetter 13 = .ok (.goto 4, 3) := by decide +kernel
theorem d_M_isLetter_16 : decode b_M_isLetter 16 = .ok (.iconst 0, 1) := by decide +kernel
theorem d_M_isLetter_17 : decode b_M_isLetter 17 = .ok (.ireturn, 1) := by decide +kernel
abbrev y_M_isDigit : MethodName := ⟨"DeckFrontModel", "isDigit", "(I)Z"⟩
abbrev b_M_isDigit : ByteArray := prog_8_method_4_code
abbrev w_M_isDigit : List Cond := (Jvm.Cond.code ({ cls := "DeckFrontModel", name := "isDigit", desc := "(I)Z" } : Jvm.MethodName) prog_8_method_4_code (1 : Nat) (Option.some Jvm.ClassFile.FieldType.boolean)) :: wG
theorem d_M_isDigit_0 : decode b_M_isDigit 0 = .ok (.iload_n 0, 1) := by decide +kernel
theorem d_M_isDigit_1 : decode b_M_isDigit 1 = .ok (.bipush 48, 2) := by decide +kernel
theorem d_M_isDigit_3 : decode b_M_isDigit 3 = .ok (.if_icmp .lt 13, 3) := by decide +kernel
theorem d_M_isDigit_6 : decode b_M_isDigit 6 = .ok (.iload_n 0, 1) := by decide +kernel
theorem d_M_isDigit_7 : decode b_M_isDigit 7 = .ok (.bipush 57, 2) := by decide +kernel
theorem d_M_isDigit_9 : decode b_M_isDigit 9 = .ok (.if_icmp .gt 7, 3) := by decide +kernel
theorem d_M_isDigit_12 : decode b_M_isDigit 12 = .ok (.iconst 1, 1) := by decide +kernel
theorem d_M_isDigit_13 : decode b_M_isDigit 13 = .ok (.goto 4, 3) := by decide +kernel
theorem d_M_isDigit_16 : decode b_M_isDigit 16 = .ok (.iconst 0, 1) := by decide +kernel
theorem d_M_isDigit_17 : decode b_M_isDigit 17 = .ok (.ireturn, 1) := by decide +kernel
abbrev y_M_at : MethodName := ⟨"DeckFrontModel", "at", "(I)I"⟩
abbrev b_M_at : ByteArray := prog_8_method_15_code
abbrev w_M_at : List Cond := (Jvm.Cond.code ({ cls := "DeckFrontModel", name := "at", desc := "(I)I" } : Jvm.MethodName) prog_8_method_15_code (2 : Nat) (Option.some Jvm.ClassFile.FieldType.int)) :: wG
theorem d_M_at_0 : decode b_M_at 0 = .ok (.iload_n 1, 1) := by decide +kernel
theorem d_M_at_1 : decode b_M_at 1 = .ok (.aload_n 0, 1) := by decide +kernel
theorem d_M_at_2 : decode b_M_at 2 = .ok (.getfield 116, 3) := by decide +kernel
theorem d_M_at_5 : decode b_M_at 5 = .ok (.if_icmp .ge 12, 3) := by decide +kernel
theorem d_M_at_8 : decode b_M_at 8 = .ok (.aload_n 0, 1) := by decide +kernel
theorem d_M_at_9 : decode b_M_at 9 = .ok (.getfield 20, 3) := by decide +kernel
theorem d_M_at_12 : decode b_M_at 12 = .ok (.iload_n 1, 1) := by decide +kernel
theorem d_M_at_13 : decode b_M_at 13 = .ok (.caload, 1) := by decide +kernel
theorem d_M_at_14 : decode b_M_at 14 = .ok (.goto 4, 3) := by decide +kernel
theorem d_M_at_17 : decode b_M_at 17 = .ok (.iconst 0, 1) := by decide +kernel
theorem d_M_at_18 : decode b_M_at 18 = .ok (.ireturn, 1) := by decide +kernel
abbrev y_M_put : MethodName := ⟨"DeckFrontModel", "put", "(I)V"⟩
abbrev b_M_put : ByteArray := prog_8_method_16_code
abbrev w_M_put : List Cond := (Jvm.Cond.code ({ cls := "DeckFrontModel", name := "put", desc := "(I)V" } : Jvm.MethodName) prog_8_method_16_code (2 : Nat) (Option.none : Option Jvm.ClassFile.FieldType)) :: wG
theorem d_M_put_0 : decode b_M_put 0 = .ok (.aload_n 0, 1) := by decide +kernel
theorem d_M_put_1 : decode b_M_put 1 = .ok (.getfield 23, 3) := by decide +kernel
theorem d_M_put_4 : decode b_M_put 4 = .ok (.aload_n 0, 1) := by decide +kernel
theorem d_M_put_5 : decode b_M_put 5 = .ok (.getfield 119, 3) := by decide +kernel
theorem d_M_put_8 : decode b_M_put 8 = .ok (.iload_n 1, 1) := by decide +kernel
theorem d_M_put_9 : decode b_M_put 9 = .ok (.i2c, 1) := by decide +kernel
theorem d_M_put_10 : decode b_M_put 10 = .ok (.castore, 1) := by decide +kernel
theorem d_M_put_11 : decode b_M_put 11 = .ok (.aload_n 0, 1) := by decide +kernel
theorem d_M_put_12 : decode b_M_put 12 = .ok (.dup, 1) := by decide +kernel
theorem d_M_put_13 : decode b_M_put 13 = .ok (.getfield 119, 3) := by decide +kernel
theorem d_M_put_16 : decode b_M_put 16 = .ok (.iconst 1, 1) := by decide +kernel
theorem d_M_put_17 : decode b_M_put 17 = .ok (.iadd, 1) := by decide +kernel
theorem d_M_put_18 : decode b_M_put 18 = .ok (.putfield 119, 3) := by decide +kernel
theorem d_M_put_21 : decode b_M_put 21 = .ok (.return_, 1) := by decide +kernel
abbrev y_M_putPart : MethodName := ⟨"DeckFrontModel", "putPart", "(II)V"⟩
abbrev b_M_putPart : ByteArray := prog_8_method_17_code
abbrev w_M_putPart : List Cond := (Jvm.Cond.code ({ cls := "DeckFrontModel", name := "putPart", desc := "(II)V" } : Jvm.MethodName) prog_8_method_17_code (4 : Nat) (Option.none : Option Jvm.ClassFile.FieldType)) :: wG
theorem d_M_putPart_0 : decode b_M_putPart 0 = .ok (.iload_n 1, 1) := by decide +kernel
theorem d_M_putPart_1 : decode b_M_putPart 1 = .ok (.istore_n 3, 1) := by decide +kernel
theorem d_M_putPart_2 : decode b_M_putPart 2 = .ok (.iload_n 3, 1) := by decide +kernel
theorem d_M_putPart_3 : decode b_M_putPart 3 = .ok (.iload_n 2, 1) := by decide +kernel
theorem d_M_putPart_4 : decode b_M_putPart 4 = .ok (.if_icmp .ge 19, 3) := by decide +kernel
theorem d_M_putPart_7 : decode b_M_putPart 7 = .ok (.aload_n 0, 1) := by decide +kernel
theorem d_M_putPart_8 : decode b_M_putPart 8 = .ok (.aload_n 0, 1) := by decide +kernel
theorem d_M_putPart_9 : decode b_M_putPart 9 = .ok (.getfield 20, 3) := by decide +kernel
theorem d_M_putPart_12 : decode b_M_putPart 12 = .ok (.iload_n 3, 1) := by decide +kernel
theorem d_M_putPart_13 : decode b_M_putPart 13 = .ok (.caload, 1) := by decide +kernel
theorem d_M_putPart_14 : decode b_M_putPart 14 = .ok (.invokevirtual 122, 3) := by decide +kernel
theorem d_M_putPart_17 : decode b_M_putPart 17 = .ok (.iinc 3 1, 3) := by decide +kernel
theorem d_M_putPart_20 : decode b_M_putPart 20 = .ok (.goto (-18), 3) := by decide +kernel
theorem d_M_putPart_23 : decode b_M_putPart 23 = .ok (.return_, 1) := by decide +kernel
abbrev y_M_thrown : MethodName := ⟨"DeckFrontModel", "thrown", "()I"⟩
abbrev b_M_thrown : ByteArray := prog_8_method_2_code
abbrev w_M_thrown : List Cond := (Jvm.Cond.code ({ cls := "DeckFrontModel", name := "thrown", desc := "()I" } : Jvm.MethodName) prog_8_method_2_code (1 : Nat) (Option.some Jvm.ClassFile.FieldType.int)) :: wG
theorem d_M_thrown_0 : decode b_M_thrown 0 = .ok (.aload_n 0, 1) := by decide +kernel
theorem d_M_thrown_1 : decode b_M_thrown 1 = .ok (.getfield 82, 3) := by decide +kernel
theorem d_M_thrown_4 : decode b_M_thrown 4 = .ok (.ireturn, 1) := by decide +kernel
abbrev y_M_there : MethodName := ⟨"DeckFrontModel", "there", "(I)Z"⟩
abbrev b_M_there : ByteArray := prog_8_method_13_code
abbrev w_M_there : List Cond := (Jvm.Cond.code ({ cls := "DeckFrontModel", name := "there", desc := "(I)Z" } : Jvm.MethodName) prog_8_method_13_code (2 : Nat) (Option.some Jvm.ClassFile.FieldType.boolean)) :: wG
theorem d_M_there_0 : decode b_M_there 0 = .ok (.iload_n 1, 1) := by decide +kernel
theorem d_M_there_1 : decode b_M_there 1 = .ok (.ifCond .lt 15, 3) := by decide +kernel
theorem d_M_there_4 : decode b_M_there 4 = .ok (.iload_n 1, 1) := by decide +kernel
theorem d_M_there_5 : decode b_M_there 5 = .ok (.aload_n 0, 1) := by decide +kernel
theorem d_M_there_6 : decode b_M_there 6 = .ok (.getfield 99, 3) := by decide +kernel
theorem d_M_there_9 : decode b_M_there 9 = .ok (.if_icmp .ge 7, 3) := by decide +kernel
theorem d_M_there_12 : decode b_M_there 12 = .ok (.iconst 1, 1) := by decide +kernel
theorem d_M_there_13 : decode b_M_there 13 = .ok (.goto 4, 3) := by decide +kernel
theorem d_M_there_16 : decode b_M_there 16 = .ok (.iconst 0, 1) := by decide +kernel
theorem d_M_there_17 : decode b_M_there 17 = .ok (.ireturn, 1) := by decide +kernel
abbrev y_M_label : MethodName := ⟨"DeckFrontModel", "label", "(I)I"⟩
abbrev b_M_label : ByteArray := prog_8_method_14_code
abbrev w_M_label : List Cond := (Jvm.Cond.code ({ cls := "DeckFrontModel", name := "label", desc := "(I)I" } : Jvm.MethodName) prog_8_method_14_code (2 : Nat) (Option.some Jvm.ClassFile.FieldType.int)) :: wG
theorem d_M_label_0 : decode b_M_label 0 = .ok (.aload_n 0, 1) := by decide +kernel
theorem d_M_label_1 : decode b_M_label 1 = .ok (.iconst 0, 1) := by decide +kernel
theorem d_M_label_2 : decode b_M_label 2 = .ok (.putfield 82, 3) := by decide +kernel
theorem d_M_label_5 : decode b_M_label 5 = .ok (.aload_n 0, 1) := by decide +kernel
theorem d_M_label_6 : decode b_M_label 6 = .ok (.iload_n 1, 1) := by decide +kernel
theorem d_M_label_7 : decode b_M_label 7 = .ok (.invokevirtual 113, 3) := by decide +kernel
theorem d_M_label_10 : decode b_M_label 10 = .ok (.ifCond .eq 12, 3) := by decide +kernel
theorem d_M_label_13 : decode b_M_label 13 = .ok (.aload_n 0, 1) := by decide +kernel
theorem d_M_label_14 : decode b_M_label 14 = .ok (.getfield 13, 3) := by decide +kernel
theorem d_M_label_17 : decode b_M_label 17 = .ok (.iload_n 1, 1) := by decide +kernel
theorem d_M_label_18 : decode b_M_label 18 = .ok (.iaload, 1) := by decide +kernel
theorem d_M_label_19 : decode b_M_label 19 = .ok (.goto 4, 3) := by decide +kernel
theorem d_M_label_22 : decode b_M_label 22 = .ok (.iconst (-1), 1) := by decide +kernel
theorem d_M_label_23 : decode b_M_label 23 = .ok (.ireturn, 1) := by decide +kernel
theorem k_M_122 {a : Cond} : xkV (a :: wG) "DeckFrontModel" 122 y_M_put b_M_put 2 (Option.none : Option Jvm.ClassFile.FieldType) w_M_put 1 := ⟨⟨gG tw_938, ⟨_, rfl⟩, cG tw_7, by decide, by decide, by decide +kernel⟩, cG tw_935, cG tw_937, cG tp_3_0⟩
theorem k_M_113 {a : Cond} : xkV (a :: wG) "DeckFrontModel" 113 y_M_there b_M_there 2 (Option.some Jvm.ClassFile.FieldType.boolean) w_M_there 1 := ⟨⟨gG tw_908, ⟨_, rfl⟩, cG tw_7, by decide, by decide, by decide +kernel⟩, cG tw_905, cG tw_907, cG tp_2_10⟩
end
section
abbrev wd0 : Unit → va_W := fun _ => []
def P_M_isLetter (post : Int32 → Unit → Prop) (a0 : Int32) (u : Unit) : Prop := ((a0 < 65 → post 0 u) ∧ (¬ a0 < 65 → ((90 < a0 → post 0 u) ∧ (¬ 90 < a0 → post 1 u))))
set_option maxHeartbeats 4000000 in
set_option maxRecDepth 100000 in
theorem c_M_isLetter (l : Launch) (D : va_G) (cs : Nat → ClassId) (Ev : (Nat → Prop) → State → Prop) (hE : xEok Ev) (d : Nat) (post : Int32 → Unit → Prop) (a0 : Int32) (u : Unit) (h : P_M_isLetter post a0 u) : xC l D clX (tysX cs) Ev y_M_isLetter w_M_isLetter (rmD (d + 0)) wd0 [.int a0] u (pI post) 0 0 := by
  unfold P_M_isLetter at h
  refine xC.of (cc := b_M_isLetter) (nL := 1) (ret := (some .boolean)) (by decide) rfl (Nat.le_of_ble_eq_true rfl) ?_
  show RR l D clX (tysX cs) Ev "DeckFrontModel" b_M_isLetter 1 w_M_isLetter (rmD (d + 0)) (some .boolean) wd0 (pI post) 0 0 0 0 0 [(0, .int a0)] [] u
  refine x_iload_n (x := a0) d_M_isLetter_0 rfl ?_
  refine x_bipush (v := 65) d_M_isLetter_1 (by decide) ?_
  refine x_icmp_lt (tgt := 16) d_M_isLetter_3 rfl (fun hc => ?_) (fun hc => ?_)
  · have h := h.1 hc
    refine x_iconst (v := 0) d_M_isLetter_16 (by decide) ?_
    refine x_zret rfl d_M_isLetter_17 ⟨_, rfl, ?_⟩
    exact h
  · have h := h.2 hc
    refine x_iload_n (x := a0) d_M_isLetter_6 rfl ?_
    refine x_bipush (v := 90) d_M_isLetter_7 (by decide) ?_
    refine x_icmp_gt (tgt := 16) d_M_isLetter_9 rfl (fun hc => ?_) (fun hc => ?_)
    · have h := h.1 hc
      refine x_iconst (v := 0) d_M_isLetter_16 (by decide) ?_
      refine x_zret rfl d_M_isLetter_17 ⟨_, rfl, ?_⟩
      exact h
    · have h := h.2 hc
      refine x_iconst (v := 1) d_M_isLetter_12 (by decide) ?_
      refine x_goto (tgt := 17) d_M_isLetter_13 rfl ?_
      refine x_zret rfl d_M_isLetter_17 ⟨_, rfl, ?_⟩
      exact h
def P_M_isDigit (post : Int32 → Unit → Prop) (a0 : Int32) (u : Unit) : Prop := ((a0 < 48 → post 0 u) ∧ (¬ a0 < 48 → ((57 < a0 → post 0 u) ∧ (¬ 57 < a0 → post 1 u))))
set_option maxHeartbeats 4000000 in
set_option maxRecDepth 100000 in
theorem c_M_isDigit (l : Launch) (D : va_G) (cs : Nat → ClassId) (Ev : (Nat → Prop) → State → Prop) (hE : xEok Ev) (d : Nat) (post : Int32 → Unit → Prop) (a0 : Int32) (u : Unit) (h : P_M_isDigit post a0 u) : xC l D clX (tysX cs) Ev y_M_isDigit w_M_isDigit (rmD (d + 0)) wd0 [.int a0] u (pI post) 0 0 := by
  unfold P_M_isDigit at h
  refine xC.of (cc := b_M_isDigit) (nL := 1) (ret := (some .boolean)) (by decide) rfl (Nat.le_of_ble_eq_true rfl) ?_
  show RR l D clX (tysX cs) Ev "DeckFrontModel" b_M_isDigit 1 w_M_isDigit (rmD (d + 0)) (some .boolean) wd0 (pI post) 0 0 0 0 0 [(0, .int a0)] [] u
  refine x_iload_n (x := a0) d_M_isDigit_0 rfl ?_
  refine x_bipush (v := 48) d_M_isDigit_1 (by decide) ?_
  refine x_icmp_lt (tgt := 16) d_M_isDigit_3 rfl (fun hc => ?_) (fun hc => ?_)
  · have h := h.1 hc
    refine x_iconst (v := 0) d_M_isDigit_16 (by decide) ?_
    refine x_zret rfl d_M_isDigit_17 ⟨_, rfl, ?_⟩
    exact h
  · have h := h.2 hc
    refine x_iload_n (x := a0) d_M_isDigit_6 rfl ?_
    refine x_bipush (v := 57) d_M_isDigit_7 (by decide) ?_
    refine x_icmp_gt (tgt := 16) d_M_isDigit_9 rfl (fun hc => ?_) (fun hc => ?_)
    · have h := h.1 hc
      refine x_iconst (v := 0) d_M_isDigit_16 (by decide) ?_
      refine x_zret rfl d_M_isDigit_17 ⟨_, rfl, ?_⟩
      exact h
    · have h := h.2 hc
      refine x_iconst (v := 1) d_M_isDigit_12 (by decide) ?_
      refine x_goto (tgt := 17) d_M_isDigit_13 rfl ?_
      refine x_zret rfl d_M_isDigit_17 ⟨_, rfl, ?_⟩
      exact h
def isLet (x : Int32) : Int32 := if x < 65 then 0 else if 90 < x then 0 else 1
def isDig (x : Int32) : Int32 := if x < 48 then 0 else if 57 < x then 0 else 1
theorem cf_M_isLetter (l : Launch) (D : va_G) (cs : Nat → ClassId) (Ev : (Nat → Prop) → State → Prop) (hE : xEok Ev) (d : Nat) (x : Int32) : xC l D clX (tysX cs) Ev y_M_isLetter w_M_isLetter (rmD (d + 0)) wd0 [.int x] () (pI (fun r u1 => r = isLet x ∧ u1 = ())) 0 0 := by
  refine c_M_isLetter l D cs Ev hE d _ x () ?_
  unfold P_M_isLetter isLet
  exact ⟨fun h => ⟨by rw [if_pos h], rfl⟩, fun h => ⟨fun h2 => ⟨by rw [if_neg h, if_pos h2], rfl⟩, fun h2 => ⟨by rw [if_neg h, if_neg h2], rfl⟩⟩⟩
theorem cf_M_isDigit (l : Launch) (D : va_G) (cs : Nat → ClassId) (Ev : (Nat → Prop) → State → Prop) (hE : xEok Ev) (d : Nat) (x : Int32) : xC l D clX (tysX cs) Ev y_M_isDigit w_M_isDigit (rmD (d + 0)) wd0 [.int x] () (pI (fun r u1 => r = isDig x ∧ u1 = ())) 0 0 := by
  refine c_M_isDigit l D cs Ev hE d _ x () ?_
  unfold P_M_isDigit isDig
  exact ⟨fun h => ⟨by rw [if_pos h], rfl⟩, fun h => ⟨fun h2 => ⟨by rw [if_neg h, if_pos h2], rfl⟩, fun h2 => ⟨by rw [if_neg h, if_neg h2], rfl⟩⟩⟩
def P_M_at (post : Int32 → MS → Prop) (a0 : Int32) (u : MS) : Prop := (((gI u 8) ≤ a0 → post 0 u) ∧ (¬ (gI u 8) ≤ a0 → (vp_in a0 1920 ∧ post (gA u 6 a0.toNatClampNeg) u)))
set_option maxHeartbeats 4000000 in
set_option maxRecDepth 100000 in
theorem c_M_at (l : Launch) (D : va_G) (cs : Nat → ClassId) (Ev : (Nat → Prop) → State → Prop) (hE : xEok Ev) (o : Nat) (a : Nat → Nat) (d : Nat) (post : Int32 → MS → Prop) (a0 : Int32) (u : MS) (h : P_M_at post a0 u) : xC l D clX (tysX cs) Ev y_M_at w_M_at (rmD (d + 0)) (wdM o a cs) [.ref o, .int a0] u (pI post) 0 0 := by
  unfold P_M_at at h
  refine xC.of (cc := b_M_at) (nL := 2) (ret := (some .int)) (by decide) rfl (Nat.le_of_ble_eq_true rfl) ?_
  show RR l D clX (tysX cs) Ev "DeckFrontModel" b_M_at 2 w_M_at (rmD (d + 0)) (some .int) (wdM o a cs) (pI post) 0 0 0 0 0 [(0, .ref o), (1, .int a0)] [] u
  refine x_iload_n (x := a0) d_M_at_0 rfl ?_
  refine x_aload_n (x := o) d_M_at_1 rfl ?_
  refine x_get (v := .int (gI u 8)) f_M_116 (eM_o _ _ _ _) rfl d_M_at_2 ?_
  refine x_icmp_ge (tgt := 17) d_M_at_5 rfl (fun hc => ?_) (fun hc => ?_)
  · have h := h.1 hc
    refine x_iconst (v := 0) d_M_at_17 (by decide) ?_
    refine x_iret d_M_at_18 ⟨_, rfl, ?_⟩
    exact h
  · have h := h.2 hc
    refine x_aload_n (x := o) d_M_at_8 rfl ?_
    refine x_get (v := .ref (a 6)) f_M_20 (eM_o _ _ _ _) rfl d_M_at_9 ?_
    refine x_iload_n (x := a0) d_M_at_12 rfl ?_
    refine x_cald (t0 := 1) (eM_6 _ _ _ _) rfl h.1 d_M_at_13 ?_
    have h := h.2
    refine x_goto (tgt := 18) d_M_at_14 rfl ?_
    refine x_iret d_M_at_18 ⟨_, rfl, ?_⟩
    exact h
def P_M_put (post : MS → Prop) (a0 : Int32) (u : MS) : Prop := (vp_in (gI u 10) 600 ∧ post (sI (sA u 11 (gI u 10).toNatClampNeg (vp_nar .char ((a0.toUInt32 % 65536).toInt32))) 10 ((gI u 10) + (1 : Int32))))
set_option maxHeartbeats 4000000 in
set_option maxRecDepth 100000 in
theorem c_M_put (l : Launch) (D : va_G) (cs : Nat → ClassId) (Ev : (Nat → Prop) → State → Prop) (hE : xEok Ev) (o : Nat) (a : Nat → Nat) (d : Nat) (post : MS → Prop) (a0 : Int32) (u : MS) (h : P_M_put post a0 u) : xC l D clX (tysX cs) Ev y_M_put w_M_put (rmD (d + 0)) (wdM o a cs) [.ref o, .int a0] u (pV post) 0 0 := by
  unfold P_M_put at h
  refine xC.of (cc := b_M_put) (nL := 2) (ret := none) (by decide) rfl (Nat.le_of_ble_eq_true rfl) ?_
  show RR l D clX (tysX cs) Ev "DeckFrontModel" b_M_put 2 w_M_put (rmD (d + 0)) none (wdM o a cs) (pV post) 0 0 0 0 0 [(0, .ref o), (1, .int a0)] [] u
  refine x_aload_n (x := o) d_M_put_0 rfl ?_
  refine x_get (v := .ref (a 11)) f_M_23 (eM_o _ _ _ _) rfl d_M_put_1 ?_
  refine x_aload_n (x := o) d_M_put_4 rfl ?_
  refine x_get (v := .int (gI u 10)) f_M_119 (eM_o _ _ _ _) rfl d_M_put_5 ?_
  refine x_iload_n (x := a0) d_M_put_8 rfl ?_
  refine x_i2c d_M_put_9 ?_
  refine x_cast (t0 := 1) (eM_11 _ _ _ _) rfl h.1 (sM_11 _ _ _ _ _ _) d_M_put_10 ?_
  have h := h.2
  refine x_aload_n (x := o) d_M_put_11 rfl ?_
  refine x_dup d_M_put_12 rfl ?_
  refine x_get (v := .int (gI u 10)) f_M_119 (eM_o _ _ _ _) rfl d_M_put_13 ?_
  refine x_iconst (v := 1) d_M_put_16 (by decide) ?_
  refine x_iadd d_M_put_17 ?_
  refine x_put f_M_119 fw_M_10 (eM_o _ _ _ _) rfl rfl (Nat.le_of_ble_eq_true rfl) (sM_10 _ _ _ _ _) d_M_put_18 ?_
  refine x_vret d_M_put_21 ⟨rfl, ?_⟩
  exact h
def P_M_thrown (post : Int32 → MS → Prop) (u : MS) : Prop := post (gI u 0) u
set_option maxHeartbeats 4000000 in
set_option maxRecDepth 100000 in
theorem c_M_thrown (l : Launch) (D : va_G) (cs : Nat → ClassId) (Ev : (Nat → Prop) → State → Prop) (hE : xEok Ev) (o : Nat) (a : Nat → Nat) (d : Nat) (post : Int32 → MS → Prop) (u : MS) (h : P_M_thrown post  u) : xC l D clX (tysX cs) Ev y_M_thrown w_M_thrown (rmD (d + 0)) (wdM o a cs) [.ref o] u (pI post) 0 0 := by
  unfold P_M_thrown at h
  refine xC.of (cc := b_M_thrown) (nL := 1) (ret := (some .int)) (by decide) rfl (Nat.le_of_ble_eq_true rfl) ?_
  show RR l D clX (tysX cs) Ev "DeckFrontModel" b_M_thrown 1 w_M_thrown (rmD (d + 0)) (some .int) (wdM o a cs) (pI post) 0 0 0 0 0 [(0, .ref o)] [] u
  refine x_aload_n (x := o) d_M_thrown_0 rfl ?_
  refine x_get (v := .int (gI u 0)) f_M_82 (eM_o _ _ _ _) rfl d_M_thrown_1 ?_
  refine x_iret d_M_thrown_4 ⟨_, rfl, ?_⟩
  exact h
def P_M_there (post : Int32 → MS → Prop) (a0 : Int32) (u : MS) : Prop := ((a0 < 0 → post 0 u) ∧ (¬ a0 < 0 → (((gI u 3) ≤ a0 → post 0 u) ∧ (¬ (gI u 3) ≤ a0 → post 1 u))))
set_option maxHeartbeats 4000000 in
set_option maxRecDepth 100000 in
theorem c_M_there (l : Launch) (D : va_G) (cs : Nat → ClassId) (Ev : (Nat → Prop) → State → Prop) (hE : xEok Ev) (o : Nat) (a : Nat → Nat) (d : Nat) (post : Int32 → MS → Prop) (a0 : Int32) (u : MS) (h : P_M_there post a0 u) : xC l D clX (tysX cs) Ev y_M_there w_M_there (rmD (d + 0)) (wdM o a cs) [.ref o, .int a0] u (pI post) 0 0 := by
  unfold P_M_there at h
  refine xC.of (cc := b_M_there) (nL := 2) (ret := (some .boolean)) (by decide) rfl (Nat.le_of_ble_eq_true rfl) ?_
  show RR l D clX (tysX cs) Ev "DeckFrontModel" b_M_there 2 w_M_there (rmD (d + 0)) (some .boolean) (wdM o a cs) (pI post) 0 0 0 0 0 [(0, .ref o), (1, .int a0)] [] u
  refine x_iload_n (x := a0) d_M_there_0 rfl ?_
  refine x_if_lt (tgt := 16) d_M_there_1 rfl (fun hc => ?_) (fun hc => ?_)
  · have h := h.1 hc
    refine x_iconst (v := 0) d_M_there_16 (by decide) ?_
    refine x_zret rfl d_M_there_17 ⟨_, rfl, ?_⟩
    exact h
  · have h := h.2 hc
    refine x_iload_n (x := a0) d_M_there_4 rfl ?_
    refine x_aload_n (x := o) d_M_there_5 rfl ?_
    refine x_get (v := .int (gI u 3)) f_M_99 (eM_o _ _ _ _) rfl d_M_there_6 ?_
    refine x_icmp_ge (tgt := 16) d_M_there_9 rfl (fun hc => ?_) (fun hc => ?_)
    · have h := h.1 hc
      refine x_iconst (v := 0) d_M_there_16 (by decide) ?_
      refine x_zret rfl d_M_there_17 ⟨_, rfl, ?_⟩
      exact h
    · have h := h.2 hc
      refine x_iconst (v := 1) d_M_there_12 (by decide) ?_
      refine x_goto (tgt := 17) d_M_there_13 rfl ?_
      refine x_zret rfl d_M_there_17 ⟨_, rfl, ?_⟩
      exact h
def P_M_putPart_2 (post : MS → Prop) : Nat → Int32 → Int32 → MS → Prop
  | 0, _, _, _ => False
  | f + 1, x2, x3, u => ((x2 ≤ x3 → post u) ∧ (¬ x2 ≤ x3 → (vp_in x3 1920 ∧ P_M_put (fun u1 => P_M_putPart_2 post f x2 (x3 + 1) u1) (gA u 6 x3.toNatClampNeg) u)))
set_option maxHeartbeats 4000000 in
set_option maxRecDepth 100000 in
theorem w_M_putPart_2 (l : Launch) (D : va_G) (cs : Nat → ClassId) (Ev : (Nat → Prop) → State → Prop) (hE : xEok Ev) (o : Nat) (a : Nat → Nat) (d : Nat) (post : MS → Prop) : ∀ (f : Nat) (x2 : Int32) (x3 : Int32) (u : MS), P_M_putPart_2 post  f x2 x3 u → RR l D clX (tysX cs) Ev "DeckFrontModel" b_M_putPart 4 w_M_putPart (rmD (d + 1)) none (wdM o a cs) (pV post) 0 0 0 0 2 [(0, .ref o), (2, .int x2), (3, .int x3)] [] u := by
  intro f
  induction f with
  | zero => intro x2 x3 u h; exact h.elim
  | succ f ih =>
    intro x2 x3 u h
    unfold P_M_putPart_2 at h
    refine x_iload_n (x := x3) d_M_putPart_2 rfl ?_
    refine x_iload_n (x := x2) d_M_putPart_3 rfl ?_
    refine x_icmp_ge (tgt := 23) d_M_putPart_4 rfl (fun hc => ?_) (fun hc => ?_)
    · have h := h.1 hc
      refine x_vret d_M_putPart_23 ⟨rfl, ?_⟩
      exact h
    · have h := h.2 hc
      refine x_aload_n (x := o) d_M_putPart_7 rfl ?_
      refine x_aload_n (x := o) d_M_putPart_8 rfl ?_
      refine x_get (v := .ref (a 6)) f_M_20 (eM_o _ _ _ _) rfl d_M_putPart_9 ?_
      refine x_iload_n (x := x3) d_M_putPart_12 rfl ?_
      refine x_cald (t0 := 1) (eM_6 _ _ _ _) rfl h.1 d_M_putPart_13 ?_
      have h := h.2
      refine x_callV (st := []) k_M_122 rfl (eM_o _ _ _ _) x_id (c_M_put l D cs Ev hE o a (d + 0) _ (gA u 6 x3.toNatClampNeg) u h) hE (rmD_ok (by omega) (by decide)) rfl (Nat.le_of_ble_eq_true rfl) rfl d_M_putPart_14 (x_rV (fun u1 h => ?_))
      refine x_iinc (v := x3 + 1) (lv' := [(3, .int (x3 + 1)), (0, .ref o), (2, .int x2)]) d_M_putPart_17 rfl rfl (by decide) rfl ?_
      refine x_goto (tgt := 2) d_M_putPart_20 rfl ?_
      refine x_sub [1, 2, 0] rfl ?_
      exact ih x2 (x3 + 1) u1 h
def P_M_putPart (post : MS → Prop) (a0 : Int32) (a1 : Int32) (u : MS) : Prop := (∃ f, P_M_putPart_2 post f a1 a0 u)
set_option maxHeartbeats 4000000 in
set_option maxRecDepth 100000 in
theorem c_M_putPart (l : Launch) (D : va_G) (cs : Nat → ClassId) (Ev : (Nat → Prop) → State → Prop) (hE : xEok Ev) (o : Nat) (a : Nat → Nat) (d : Nat) (post : MS → Prop) (a0 : Int32) (a1 : Int32) (u : MS) (h : P_M_putPart post a0 a1 u) : xC l D clX (tysX cs) Ev y_M_putPart w_M_putPart (rmD (d + 1)) (wdM o a cs) [.ref o, .int a0, .int a1] u (pV post) 0 0 := by
  unfold P_M_putPart at h
  refine xC.of (cc := b_M_putPart) (nL := 4) (ret := none) (by decide) rfl (Nat.le_of_ble_eq_true rfl) ?_
  show RR l D clX (tysX cs) Ev "DeckFrontModel" b_M_putPart 4 w_M_putPart (rmD (d + 1)) none (wdM o a cs) (pV post) 0 0 0 0 0 [(0, .ref o), (1, .int a0), (2, .int a1)] [] u
  refine x_iload_n (x := a0) d_M_putPart_0 rfl ?_
  refine x_istore_n (lv' := [(3, .int a0), (0, .ref o), (1, .int a0), (2, .int a1)]) d_M_putPart_1 (by decide) rfl ?_
  refine x_sub [1, 3, 0] rfl ?_
  obtain ⟨f9, h⟩ := h
  exact w_M_putPart_2 l D cs Ev hE o a d post  f9 a1 a0 u h
def P_M_label (post : Int32 → MS → Prop) (a0 : Int32) (u : MS) : Prop := P_M_there (fun r2 u1 => ((r2 = 0 → post (-1) u1) ∧ (¬ r2 = 0 → (vp_in a0 24 ∧ post (gA u1 4 a0.toNatClampNeg) u1)))) a0 (sI u 0 (0 : Int32))
set_option maxHeartbeats 4000000 in
set_option maxRecDepth 100000 in
theorem c_M_label (l : Launch) (D : va_G) (cs : Nat → ClassId) (Ev : (Nat → Prop) → State → Prop) (hE : xEok Ev) (o : Nat) (a : Nat → Nat) (d : Nat) (post : Int32 → MS → Prop) (a0 : Int32) (u : MS) (h : P_M_label post a0 u) : xC l D clX (tysX cs) Ev y_M_label w_M_label (rmD (d + 1)) (wdM o a cs) [.ref o, .int a0] u (pI post) 0 0 := by
  unfold P_M_label at h
  refine xC.of (cc := b_M_label) (nL := 2) (ret := (some .int)) (by decide) rfl (Nat.le_of_ble_eq_true rfl) ?_
  show RR l D clX (tysX cs) Ev "DeckFrontModel" b_M_label 2 w_M_label (rmD (d + 1)) (some .int) (wdM o a cs) (pI post) 0 0 0 0 0 [(0, .ref o), (1, .int a0)] [] u
  refine x_aload_n (x := o) d_M_label_0 rfl ?_
  refine x_iconst (v := 0) d_M_label_1 (by decide) ?_
  refine x_put f_M_82 fw_M_0 (eM_o _ _ _ _) rfl rfl (Nat.le_of_ble_eq_true rfl) (sM_0 _ _ _ _ _) d_M_label_2 ?_
  refine x_aload_n (x := o) d_M_label_5 rfl ?_
  refine x_iload_n (x := a0) d_M_label_6 rfl ?_
  refine x_callV (st := []) k_M_113 rfl (eM_o _ _ _ _) x_id (c_M_there l D cs Ev hE o a (d + 0) _ a0 (sI u 0 (0 : Int32)) h) hE (rmD_ok (by omega) (by decide)) rfl (Nat.le_of_ble_eq_true rfl) rfl d_M_label_7 (x_rI (fun r2 u1 h => ?_))
  refine x_if_eq (tgt := 22) d_M_label_10 rfl (fun hc => ?_) (fun hc => ?_)
  · have h := h.1 hc
    refine x_iconst (v := (-1)) d_M_label_22 (by decide) ?_
    refine x_iret d_M_label_23 ⟨_, rfl, ?_⟩
    exact h
  · have h := h.2 hc
    refine x_aload_n (x := o) d_M_label_13 rfl ?_
    refine x_get (v := .ref (a 4)) f_M_13 (eM_o _ _ _ _) rfl d_M_label_14 ?_
    refine x_iload_n (x := a0) d_M_label_17 rfl ?_
    refine x_iald (t0 := 0) (eM_4 _ _ _ _) rfl h.1 d_M_label_18 ?_
    have h := h.2
    refine x_goto (tgt := 23) d_M_label_19 rfl ?_
    refine x_iret d_M_label_23 ⟨_, rfl, ?_⟩
    exact h
end

section
-- ===== PART A: goes FIRST, ahead of the names: the tables' words, and 'selects' of the private methods out of them =====
/-- a private method of a class that the tables say can be made, by its rows of tables_1 -/
def lw_okq (q : MethodName × Nat) : Prop := (q.1.cls ≠ "java/lang/invoke/MethodHandle" ∧ q.1.cls ≠ "java/lang/invoke/VarHandle") ∧ Cond.instantiable q.1.cls q.2 ∈ tables_1 ∧ Cond.privateMethod q.1 ∈ tables_1 ∧ Cond.instanceMethod q.1 ∈ tables_1
theorem lw_p0 : lw_okq (⟨"ChainChoice", "rowOf", "(I)LChainChoice$Row;"⟩, 14) := ⟨⟨by decide +kernel, by decide +kernel⟩, List.mem_of_getElem? (i := 21) (by decide +kernel), List.mem_of_getElem? (i := 339) (by decide +kernel), List.mem_of_getElem? (i := 340) (by decide +kernel)⟩
theorem lw_p1 : lw_okq (⟨"ChainChoice", "dropChoices", "()V"⟩, 14) := ⟨⟨by decide +kernel, by decide +kernel⟩, List.mem_of_getElem? (i := 21) (by decide +kernel), List.mem_of_getElem? (i := 370) (by decide +kernel), List.mem_of_getElem? (i := 371) (by decide +kernel)⟩
theorem lw_p2 : lw_okq (⟨"ChainChoice", "writeHead", "(ILChainChoice$Row;)V"⟩, 14) := ⟨⟨by decide +kernel, by decide +kernel⟩, List.mem_of_getElem? (i := 21) (by decide +kernel), List.mem_of_getElem? (i := 460) (by decide +kernel), List.mem_of_getElem? (i := 461) (by decide +kernel)⟩
theorem lw_p3 : lw_okq (⟨"ChainChoice", "filtered", "(I)LChainChoice$Row;"⟩, 14) := ⟨⟨by decide +kernel, by decide +kernel⟩, List.mem_of_getElem? (i := 21) (by decide +kernel), List.mem_of_getElem? (i := 470) (by decide +kernel), List.mem_of_getElem? (i := 471) (by decide +kernel)⟩
theorem lw_p4 : lw_okq (⟨"ChainChoice$Filters", "startOrder", "()V"⟩, 1) := ⟨⟨by decide +kernel, by decide +kernel⟩, List.mem_of_getElem? (i := 65) (by decide +kernel), List.mem_of_getElem? (i := 495) (by decide +kernel), List.mem_of_getElem? (i := 496) (by decide +kernel)⟩
theorem lw_p5 : lw_okq (⟨"ChainChoice$Filters", "bringToFront", "(I)I"⟩, 1) := ⟨⟨by decide +kernel, by decide +kernel⟩, List.mem_of_getElem? (i := 65) (by decide +kernel), List.mem_of_getElem? (i := 499) (by decide +kernel), List.mem_of_getElem? (i := 500) (by decide +kernel)⟩
theorem lw_p6 : lw_okq (⟨"ChainChoice$Packers", "writeBits", "(LChainChoice$Row;LChainChoice$Row;)V"⟩, 9) := ⟨⟨by decide +kernel, by decide +kernel⟩, List.mem_of_getElem? (i := 75) (by decide +kernel), List.mem_of_getElem? (i := 529) (by decide +kernel), List.mem_of_getElem? (i := 530) (by decide +kernel)⟩
theorem lw_p7 : lw_okq (⟨"ChainChoice$Packers", "writePrefix", "(LChainChoice$Row;LChainChoice$Row;)V"⟩, 9) := ⟨⟨by decide +kernel, by decide +kernel⟩, List.mem_of_getElem? (i := 75) (by decide +kernel), List.mem_of_getElem? (i := 550) (by decide +kernel), List.mem_of_getElem? (i := 551) (by decide +kernel)⟩
theorem lw_p8 : lw_okq (⟨"ChainChoice$Tree", "sortLeaves", "([I)V"⟩, 7) := ⟨⟨by decide +kernel, by decide +kernel⟩, List.mem_of_getElem? (i := 94) (by decide +kernel), List.mem_of_getElem? (i := 563) (by decide +kernel), List.mem_of_getElem? (i := 564) (by decide +kernel)⟩
theorem lw_p9 : lw_okq (⟨"ChainChoice$Tree", "join", "()V"⟩, 7) := ⟨⟨by decide +kernel, by decide +kernel⟩, List.mem_of_getElem? (i := 94) (by decide +kernel), List.mem_of_getElem? (i := 571) (by decide +kernel), List.mem_of_getElem? (i := 572) (by decide +kernel)⟩
theorem lw_p10 : lw_okq (⟨"ChainChoice$Tree", "takeLeast", "(I)I"⟩, 7) := ⟨⟨by decide +kernel, by decide +kernel⟩, List.mem_of_getElem? (i := 94) (by decide +kernel), List.mem_of_getElem? (i := 575) (by decide +kernel), List.mem_of_getElem? (i := 576) (by decide +kernel)⟩
theorem lw_p11 : lw_okq (⟨"ChainChoice$Tree", "measure", "(LChainChoice$PrefixCode;)V"⟩, 7) := ⟨⟨by decide +kernel, by decide +kernel⟩, List.mem_of_getElem? (i := 94) (by decide +kernel), List.mem_of_getElem? (i := 579) (by decide +kernel), List.mem_of_getElem? (i := 580) (by decide +kernel)⟩
theorem lw_p12 : lw_okq (⟨"ChainChoice$PrefixCode", "rank", "()V"⟩, 6) := ⟨⟨by decide +kernel, by decide +kernel⟩, List.mem_of_getElem? (i := 122) (by decide +kernel), List.mem_of_getElem? (i := 589) (by decide +kernel), List.mem_of_getElem? (i := 590) (by decide +kernel)⟩
theorem lw_p13 : lw_okq (⟨"ChainChoice$Packers", "writeMatches", "(LChainChoice$Row;LChainChoice$Row;)V"⟩, 9) := ⟨⟨by decide +kernel, by decide +kernel⟩, List.mem_of_getElem? (i := 75) (by decide +kernel), List.mem_of_getElem? (i := 602) (by decide +kernel), List.mem_of_getElem? (i := 603) (by decide +kernel)⟩
theorem lw_p14 : lw_okq (⟨"ChainChoice$Packers", "linkLikeBytes", "(LChainChoice$Row;)V"⟩, 9) := ⟨⟨by decide +kernel, by decide +kernel⟩, List.mem_of_getElem? (i := 75) (by decide +kernel), List.mem_of_getElem? (i := 606) (by decide +kernel), List.mem_of_getElem? (i := 607) (by decide +kernel)⟩
theorem lw_p15 : lw_okq (⟨"ChainChoice$Packers", "findMatch", "(LChainChoice$Row;I)V"⟩, 9) := ⟨⟨by decide +kernel, by decide +kernel⟩, List.mem_of_getElem? (i := 75) (by decide +kernel), List.mem_of_getElem? (i := 611) (by decide +kernel), List.mem_of_getElem? (i := 612) (by decide +kernel)⟩
def lw_privs_1 : List (MethodName × Nat) := [(⟨"ChainChoice", "rowOf", "(I)LChainChoice$Row;"⟩, 14), (⟨"ChainChoice", "dropChoices", "()V"⟩, 14), (⟨"ChainChoice", "writeHead", "(ILChainChoice$Row;)V"⟩, 14), (⟨"ChainChoice", "filtered", "(I)LChainChoice$Row;"⟩, 14), (⟨"ChainChoice$Filters", "startOrder", "()V"⟩, 1), (⟨"ChainChoice$Filters", "bringToFront", "(I)I"⟩, 1), (⟨"ChainChoice$Packers", "writeBits", "(LChainChoice$Row;LChainChoice$Row;)V"⟩, 9), (⟨"ChainChoice$Packers", "writePrefix", "(LChainChoice$Row;LChainChoice$Row;)V"⟩, 9), (⟨"ChainChoice$Tree", "sortLeaves", "([I)V"⟩, 7), (⟨"ChainChoice$Tree", "join", "()V"⟩, 7), (⟨"ChainChoice$Tree", "takeLeast", "(I)I"⟩, 7), (⟨"ChainChoice$Tree", "measure", "(LChainChoice$PrefixCode;)V"⟩, 7), (⟨"ChainChoice$PrefixCode", "rank", "()V"⟩, 6), (⟨"ChainChoice$Packers", "writeMatches", "(LChainChoice$Row;LChainChoice$Row;)V"⟩, 9), (⟨"ChainChoice$Packers", "linkLikeBytes", "(LChainChoice$Row;)V"⟩, 9), (⟨"ChainChoice$Packers", "findMatch", "(LChainChoice$Row;I)V"⟩, 9)]
theorem lw_r1 : ∀ q ∈ lw_privs_1, lw_okq q := List.forall_mem_cons.mpr ⟨lw_p0, List.forall_mem_cons.mpr ⟨lw_p1, List.forall_mem_cons.mpr ⟨lw_p2, List.forall_mem_cons.mpr ⟨lw_p3, List.forall_mem_cons.mpr ⟨lw_p4, List.forall_mem_cons.mpr ⟨lw_p5, List.forall_mem_cons.mpr ⟨lw_p6, List.forall_mem_cons.mpr ⟨lw_p7, List.forall_mem_cons.mpr ⟨lw_p8, List.forall_mem_cons.mpr ⟨lw_p9, List.forall_mem_cons.mpr ⟨lw_p10, List.forall_mem_cons.mpr ⟨lw_p11, List.forall_mem_cons.mpr ⟨lw_p12, List.forall_mem_cons.mpr ⟨lw_p13, List.forall_mem_cons.mpr ⟨lw_p14, List.forall_mem_cons.mpr ⟨lw_p15, fun _ h => absurd h List.not_mem_nil⟩⟩⟩⟩⟩⟩⟩⟩⟩⟩⟩⟩⟩⟩⟩⟩
theorem lw_p16 : lw_okq (⟨"ChainChoice$Packers", "before", "(I)I"⟩, 9) := ⟨⟨by decide +kernel, by decide +kernel⟩, List.mem_of_getElem? (i := 75) (by decide +kernel), List.mem_of_getElem? (i := 615) (by decide +kernel), List.mem_of_getElem? (i := 616) (by decide +kernel)⟩
theorem lw_p17 : lw_okq (⟨"ChainChoice$Packers", "endOfPlain", "(LChainChoice$Row;I)I"⟩, 9) := ⟨⟨by decide +kernel, by decide +kernel⟩, List.mem_of_getElem? (i := 75) (by decide +kernel), List.mem_of_getElem? (i := 620) (by decide +kernel), List.mem_of_getElem? (i := 621) (by decide +kernel)⟩
theorem lw_p18 : lw_okq (⟨"ChainChoice", "tryChains", "(II)V"⟩, 14) := ⟨⟨by decide +kernel, by decide +kernel⟩, List.mem_of_getElem? (i := 21) (by decide +kernel), List.mem_of_getElem? (i := 634) (by decide +kernel), List.mem_of_getElem? (i := 635) (by decide +kernel)⟩
theorem lw_p19 : lw_okq (⟨"ChainChoice", "isBetter", "(II)Z"⟩, 14) := ⟨⟨by decide +kernel, by decide +kernel⟩, List.mem_of_getElem? (i := 21) (by decide +kernel), List.mem_of_getElem? (i := 639) (by decide +kernel), List.mem_of_getElem? (i := 640) (by decide +kernel)⟩
theorem lw_p20 : lw_okq (⟨"ChainChoice$Traits", "variety", "(LChainChoice$Row;)I"⟩, 1) := ⟨⟨by decide +kernel, by decide +kernel⟩, List.mem_of_getElem? (i := 248) (by decide +kernel), List.mem_of_getElem? (i := 659) (by decide +kernel), List.mem_of_getElem? (i := 660) (by decide +kernel)⟩
theorem lw_p21 : lw_okq (⟨"ChainChoice$Unpacker", "readFilters", "()V"⟩, 11) := ⟨⟨by decide +kernel, by decide +kernel⟩, List.mem_of_getElem? (i := 175) (by decide +kernel), List.mem_of_getElem? (i := 705) (by decide +kernel), List.mem_of_getElem? (i := 706) (by decide +kernel)⟩
theorem lw_p22 : lw_okq (⟨"ChainChoice$Reader", "blameAt", "(II)V"⟩, 6) := ⟨⟨by decide +kernel, by decide +kernel⟩, List.mem_of_getElem? (i := 181) (by decide +kernel), List.mem_of_getElem? (i := 715) (by decide +kernel), List.mem_of_getElem? (i := 716) (by decide +kernel)⟩
theorem lw_p23 : lw_okq (⟨"ChainChoice$Unpacker", "readItems", "()V"⟩, 11) := ⟨⟨by decide +kernel, by decide +kernel⟩, List.mem_of_getElem? (i := 175) (by decide +kernel), List.mem_of_getElem? (i := 736) (by decide +kernel), List.mem_of_getElem? (i := 737) (by decide +kernel)⟩
theorem lw_p24 : lw_okq (⟨"ChainChoice$Unpacker", "copy", "(I)V"⟩, 11) := ⟨⟨by decide +kernel, by decide +kernel⟩, List.mem_of_getElem? (i := 175) (by decide +kernel), List.mem_of_getElem? (i := 741) (by decide +kernel), List.mem_of_getElem? (i := 742) (by decide +kernel)⟩
theorem lw_p25 : lw_okq (⟨"ChainChoice$Unpacker", "repeat", "(I)V"⟩, 11) := ⟨⟨by decide +kernel, by decide +kernel⟩, List.mem_of_getElem? (i := 175) (by decide +kernel), List.mem_of_getElem? (i := 746) (by decide +kernel), List.mem_of_getElem? (i := 747) (by decide +kernel)⟩
theorem lw_p26 : lw_okq (⟨"ChainChoice$Unpacker", "copyBack", "(I)V"⟩, 11) := ⟨⟨by decide +kernel, by decide +kernel⟩, List.mem_of_getElem? (i := 175) (by decide +kernel), List.mem_of_getElem? (i := 750) (by decide +kernel), List.mem_of_getElem? (i := 751) (by decide +kernel)⟩
theorem lw_p27 : lw_okq (⟨"ChainChoice$Unpacker", "readBits", "()V"⟩, 11) := ⟨⟨by decide +kernel, by decide +kernel⟩, List.mem_of_getElem? (i := 175) (by decide +kernel), List.mem_of_getElem? (i := 755) (by decide +kernel), List.mem_of_getElem? (i := 756) (by decide +kernel)⟩
theorem lw_p28 : lw_okq (⟨"ChainChoice$Unpacker", "readRising", "(I)I"⟩, 11) := ⟨⟨by decide +kernel, by decide +kernel⟩, List.mem_of_getElem? (i := 175) (by decide +kernel), List.mem_of_getElem? (i := 759) (by decide +kernel), List.mem_of_getElem? (i := 760) (by decide +kernel)⟩
theorem lw_p29 : lw_okq (⟨"ChainChoice$Unpacker", "readPrefix", "()V"⟩, 11) := ⟨⟨by decide +kernel, by decide +kernel⟩, List.mem_of_getElem? (i := 175) (by decide +kernel), List.mem_of_getElem? (i := 774) (by decide +kernel), List.mem_of_getElem? (i := 775) (by decide +kernel)⟩
theorem lw_p30 : lw_okq (⟨"ChainChoice$Unpacker", "readLengths", "()V"⟩, 11) := ⟨⟨by decide +kernel, by decide +kernel⟩, List.mem_of_getElem? (i := 175) (by decide +kernel), List.mem_of_getElem? (i := 778) (by decide +kernel), List.mem_of_getElem? (i := 779) (by decide +kernel)⟩
theorem lw_p31 : lw_okq (⟨"ChainChoice$Unpacker", "undoFilters", "()V"⟩, 11) := ⟨⟨by decide +kernel, by decide +kernel⟩, List.mem_of_getElem? (i := 175) (by decide +kernel), List.mem_of_getElem? (i := 805) (by decide +kernel), List.mem_of_getElem? (i := 806) (by decide +kernel)⟩
def lw_privs_2 : List (MethodName × Nat) := [(⟨"ChainChoice$Packers", "before", "(I)I"⟩, 9), (⟨"ChainChoice$Packers", "endOfPlain", "(LChainChoice$Row;I)I"⟩, 9), (⟨"ChainChoice", "tryChains", "(II)V"⟩, 14), (⟨"ChainChoice", "isBetter", "(II)Z"⟩, 14), (⟨"ChainChoice$Traits", "variety", "(LChainChoice$Row;)I"⟩, 1), (⟨"ChainChoice$Unpacker", "readFilters", "()V"⟩, 11), (⟨"ChainChoice$Reader", "blameAt", "(II)V"⟩, 6), (⟨"ChainChoice$Unpacker", "readItems", "()V"⟩, 11), (⟨"ChainChoice$Unpacker", "copy", "(I)V"⟩, 11), (⟨"ChainChoice$Unpacker", "repeat", "(I)V"⟩, 11), (⟨"ChainChoice$Unpacker", "copyBack", "(I)V"⟩, 11), (⟨"ChainChoice$Unpacker", "readBits", "()V"⟩, 11), (⟨"ChainChoice$Unpacker", "readRising", "(I)I"⟩, 11), (⟨"ChainChoice$Unpacker", "readPrefix", "()V"⟩, 11), (⟨"ChainChoice$Unpacker", "readLengths", "()V"⟩, 11), (⟨"ChainChoice$Unpacker", "undoFilters", "()V"⟩, 11)]
theorem lw_r2 : ∀ q ∈ lw_privs_2, lw_okq q := List.forall_mem_cons.mpr ⟨lw_p16, List.forall_mem_cons.mpr ⟨lw_p17, List.forall_mem_cons.mpr ⟨lw_p18, List.forall_mem_cons.mpr ⟨lw_p19, List.forall_mem_cons.mpr ⟨lw_p20, List.forall_mem_cons.mpr ⟨lw_p21, List.forall_mem_cons.mpr ⟨lw_p22, List.forall_mem_cons.mpr ⟨lw_p23, List.forall_mem_cons.mpr ⟨lw_p24, List.forall_mem_cons.mpr ⟨lw_p25, List.forall_mem_cons.mpr ⟨lw_p26, List.forall_mem_cons.mpr ⟨lw_p27, List.forall_mem_cons.mpr ⟨lw_p28, List.forall_mem_cons.mpr ⟨lw_p29, List.forall_mem_cons.mpr ⟨lw_p30, List.forall_mem_cons.mpr ⟨lw_p31, fun _ h => absurd h List.not_mem_nil⟩⟩⟩⟩⟩⟩⟩⟩⟩⟩⟩⟩⟩⟩⟩⟩
theorem lw_p32 : lw_okq (⟨"ChainChoice$Filters", "takeToFront", "(I)I"⟩, 1) := ⟨⟨by decide +kernel, by decide +kernel⟩, List.mem_of_getElem? (i := 65) (by decide +kernel), List.mem_of_getElem? (i := 814) (by decide +kernel), List.mem_of_getElem? (i := 815) (by decide +kernel)⟩
theorem lw_p33 : lw_okq (⟨"java/lang/Throwable", "fillInStackTrace", "(I)Ljava/lang/Throwable;"⟩, 6) := ⟨⟨by decide +kernel, by decide +kernel⟩, List.mem_of_getElem? (i := 883) (by decide +kernel), List.mem_of_getElem? (i := 881) (by decide +kernel), List.mem_of_getElem? (i := 882) (by decide +kernel)⟩
theorem lw_p34 : lw_okq (⟨"ChainChoiceModel", "lose", "()V"⟩, 35) := ⟨⟨by decide +kernel, by decide +kernel⟩, List.mem_of_getElem? (i := 914) (by decide +kernel), List.mem_of_getElem? (i := 920) (by decide +kernel), List.mem_of_getElem? (i := 921) (by decide +kernel)⟩
theorem lw_p35 : lw_okq (⟨"ChainChoiceModel", "part", "(I)V"⟩, 35) := ⟨⟨by decide +kernel, by decide +kernel⟩, List.mem_of_getElem? (i := 914) (by decide +kernel), List.mem_of_getElem? (i := 1082) (by decide +kernel), List.mem_of_getElem? (i := 1083) (by decide +kernel)⟩
theorem lw_p36 : lw_okq (⟨"ChainChoiceModel", "stepsOf", "()I"⟩, 35) := ⟨⟨by decide +kernel, by decide +kernel⟩, List.mem_of_getElem? (i := 914) (by decide +kernel), List.mem_of_getElem? (i := 1086) (by decide +kernel), List.mem_of_getElem? (i := 1087) (by decide +kernel)⟩
theorem lw_p37 : lw_okq (⟨"ChainChoiceModel", "memoryOf", "()I"⟩, 35) := ⟨⟨by decide +kernel, by decide +kernel⟩, List.mem_of_getElem? (i := 914) (by decide +kernel), List.mem_of_getElem? (i := 1090) (by decide +kernel), List.mem_of_getElem? (i := 1091) (by decide +kernel)⟩
theorem lw_p38 : lw_okq (⟨"ChainChoiceModel", "packAll", "(I)V"⟩, 35) := ⟨⟨by decide +kernel, by decide +kernel⟩, List.mem_of_getElem? (i := 914) (by decide +kernel), List.mem_of_getElem? (i := 1094) (by decide +kernel), List.mem_of_getElem? (i := 1095) (by decide +kernel)⟩
theorem lw_p39 : lw_okq (⟨"ChainChoiceModel", "put", "(I)V"⟩, 35) := ⟨⟨by decide +kernel, by decide +kernel⟩, List.mem_of_getElem? (i := 914) (by decide +kernel), List.mem_of_getElem? (i := 1098) (by decide +kernel), List.mem_of_getElem? (i := 1099) (by decide +kernel)⟩
theorem lw_p40 : lw_okq (⟨"ChainChoiceModel", "putFilter", "(I)V"⟩, 35) := ⟨⟨by decide +kernel, by decide +kernel⟩, List.mem_of_getElem? (i := 914) (by decide +kernel), List.mem_of_getElem? (i := 1102) (by decide +kernel), List.mem_of_getElem? (i := 1103) (by decide +kernel)⟩
theorem lw_p41 : lw_okq (⟨"ChainChoiceModel", "apply", "(IIIZ)V"⟩, 35) := ⟨⟨by decide +kernel, by decide +kernel⟩, List.mem_of_getElem? (i := 914) (by decide +kernel), List.mem_of_getElem? (i := 1106) (by decide +kernel), List.mem_of_getElem? (i := 1107) (by decide +kernel)⟩
theorem lw_p42 : lw_okq (⟨"ChainChoiceModel", "beginList", "()V"⟩, 35) := ⟨⟨by decide +kernel, by decide +kernel⟩, List.mem_of_getElem? (i := 914) (by decide +kernel), List.mem_of_getElem? (i := 1110) (by decide +kernel), List.mem_of_getElem? (i := 1111) (by decide +kernel)⟩
theorem lw_p43 : lw_okq (⟨"ChainChoiceModel", "placeOf", "(I)I"⟩, 35) := ⟨⟨by decide +kernel, by decide +kernel⟩, List.mem_of_getElem? (i := 914) (by decide +kernel), List.mem_of_getElem? (i := 1114) (by decide +kernel), List.mem_of_getElem? (i := 1115) (by decide +kernel)⟩
theorem lw_p44 : lw_okq (⟨"ChainChoiceModel", "front", "(I)V"⟩, 35) := ⟨⟨by decide +kernel, by decide +kernel⟩, List.mem_of_getElem? (i := 914) (by decide +kernel), List.mem_of_getElem? (i := 1118) (by decide +kernel), List.mem_of_getElem? (i := 1119) (by decide +kernel)⟩
theorem lw_p45 : lw_okq (⟨"ChainChoiceModel", "packRuns", "(I)V"⟩, 35) := ⟨⟨by decide +kernel, by decide +kernel⟩, List.mem_of_getElem? (i := 914) (by decide +kernel), List.mem_of_getElem? (i := 1122) (by decide +kernel), List.mem_of_getElem? (i := 1123) (by decide +kernel)⟩
theorem lw_p46 : lw_okq (⟨"ChainChoiceModel", "like", "(II)I"⟩, 35) := ⟨⟨by decide +kernel, by decide +kernel⟩, List.mem_of_getElem? (i := 914) (by decide +kernel), List.mem_of_getElem? (i := 1126) (by decide +kernel), List.mem_of_getElem? (i := 1127) (by decide +kernel)⟩
theorem lw_p47 : lw_okq (⟨"ChainChoiceModel", "putRow", "(II)V"⟩, 35) := ⟨⟨by decide +kernel, by decide +kernel⟩, List.mem_of_getElem? (i := 914) (by decide +kernel), List.mem_of_getElem? (i := 1130) (by decide +kernel), List.mem_of_getElem? (i := 1131) (by decide +kernel)⟩
def lw_privs_3 : List (MethodName × Nat) := [(⟨"ChainChoice$Filters", "takeToFront", "(I)I"⟩, 1), (⟨"java/lang/Throwable", "fillInStackTrace", "(I)Ljava/lang/Throwable;"⟩, 6), (⟨"ChainChoiceModel", "lose", "()V"⟩, 35), (⟨"ChainChoiceModel", "part", "(I)V"⟩, 35), (⟨"ChainChoiceModel", "stepsOf", "()I"⟩, 35), (⟨"ChainChoiceModel", "memoryOf", "()I"⟩, 35), (⟨"ChainChoiceModel", "packAll", "(I)V"⟩, 35), (⟨"ChainChoiceModel", "put", "(I)V"⟩, 35), (⟨"ChainChoiceModel", "putFilter", "(I)V"⟩, 35), (⟨"ChainChoiceModel", "apply", "(IIIZ)V"⟩, 35), (⟨"ChainChoiceModel", "beginList", "()V"⟩, 35), (⟨"ChainChoiceModel", "placeOf", "(I)I"⟩, 35), (⟨"ChainChoiceModel", "front", "(I)V"⟩, 35), (⟨"ChainChoiceModel", "packRuns", "(I)V"⟩, 35), (⟨"ChainChoiceModel", "like", "(II)I"⟩, 35), (⟨"ChainChoiceModel", "putRow", "(II)V"⟩, 35)]
theorem lw_r3 : ∀ q ∈ lw_privs_3, lw_okq q := List.forall_mem_cons.mpr ⟨lw_p32, List.forall_mem_cons.mpr ⟨lw_p33, List.forall_mem_cons.mpr ⟨lw_p34, List.forall_mem_cons.mpr ⟨lw_p35, List.forall_mem_cons.mpr ⟨lw_p36, List.forall_mem_cons.mpr ⟨lw_p37, List.forall_mem_cons.mpr ⟨lw_p38, List.forall_mem_cons.mpr ⟨lw_p39, List.forall_mem_cons.mpr ⟨lw_p40, List.forall_mem_cons.mpr ⟨lw_p41, List.forall_mem_cons.mpr ⟨lw_p42, List.forall_mem_cons.mpr ⟨lw_p43, List.forall_mem_cons.mpr ⟨lw_p44, List.forall_mem_cons.mpr ⟨lw_p45, List.forall_mem_cons.mpr ⟨lw_p46, List.forall_mem_cons.mpr ⟨lw_p47, fun _ h => absurd h List.not_mem_nil⟩⟩⟩⟩⟩⟩⟩⟩⟩⟩⟩⟩⟩⟩⟩⟩
theorem lw_p48 : lw_okq (⟨"ChainChoiceModel", "packBits", "(I)V"⟩, 35) := ⟨⟨by decide +kernel, by decide +kernel⟩, List.mem_of_getElem? (i := 914) (by decide +kernel), List.mem_of_getElem? (i := 1134) (by decide +kernel), List.mem_of_getElem? (i := 1135) (by decide +kernel)⟩
theorem lw_p49 : lw_okq (⟨"ChainChoiceModel", "countBytes", "(I)I"⟩, 35) := ⟨⟨by decide +kernel, by decide +kernel⟩, List.mem_of_getElem? (i := 914) (by decide +kernel), List.mem_of_getElem? (i := 1138) (by decide +kernel), List.mem_of_getElem? (i := 1139) (by decide +kernel)⟩
theorem lw_p50 : lw_okq (⟨"ChainChoiceModel", "bits", "(II)V"⟩, 35) := ⟨⟨by decide +kernel, by decide +kernel⟩, List.mem_of_getElem? (i := 914) (by decide +kernel), List.mem_of_getElem? (i := 1145) (by decide +kernel), List.mem_of_getElem? (i := 1146) (by decide +kernel)⟩
theorem lw_p51 : lw_okq (⟨"ChainChoiceModel", "packPrefix", "(I)V"⟩, 35) := ⟨⟨by decide +kernel, by decide +kernel⟩, List.mem_of_getElem? (i := 914) (by decide +kernel), List.mem_of_getElem? (i := 1149) (by decide +kernel), List.mem_of_getElem? (i := 1150) (by decide +kernel)⟩
theorem lw_p52 : lw_okq (⟨"ChainChoiceModel", "findLengths", "(I)V"⟩, 35) := ⟨⟨by decide +kernel, by decide +kernel⟩, List.mem_of_getElem? (i := 914) (by decide +kernel), List.mem_of_getElem? (i := 1153) (by decide +kernel), List.mem_of_getElem? (i := 1154) (by decide +kernel)⟩
theorem lw_p53 : lw_okq (⟨"ChainChoiceModel", "least", "(II)I"⟩, 35) := ⟨⟨by decide +kernel, by decide +kernel⟩, List.mem_of_getElem? (i := 914) (by decide +kernel), List.mem_of_getElem? (i := 1157) (by decide +kernel), List.mem_of_getElem? (i := 1158) (by decide +kernel)⟩
theorem lw_p54 : lw_okq (⟨"ChainChoiceModel", "findCodes", "()V"⟩, 35) := ⟨⟨by decide +kernel, by decide +kernel⟩, List.mem_of_getElem? (i := 914) (by decide +kernel), List.mem_of_getElem? (i := 1161) (by decide +kernel), List.mem_of_getElem? (i := 1162) (by decide +kernel)⟩
theorem lw_p55 : lw_okq (⟨"ChainChoiceModel", "packMatches", "(I)V"⟩, 35) := ⟨⟨by decide +kernel, by decide +kernel⟩, List.mem_of_getElem? (i := 914) (by decide +kernel), List.mem_of_getElem? (i := 1165) (by decide +kernel), List.mem_of_getElem? (i := 1166) (by decide +kernel)⟩
theorem lw_p56 : lw_okq (⟨"ChainChoiceModel", "match", "(II)V"⟩, 35) := ⟨⟨by decide +kernel, by decide +kernel⟩, List.mem_of_getElem? (i := 914) (by decide +kernel), List.mem_of_getElem? (i := 1169) (by decide +kernel), List.mem_of_getElem? (i := 1170) (by decide +kernel)⟩
theorem lw_p57 : lw_okq (⟨"ChainChoiceModel", "isFlat", "()Z"⟩, 35) := ⟨⟨by decide +kernel, by decide +kernel⟩, List.mem_of_getElem? (i := 914) (by decide +kernel), List.mem_of_getElem? (i := 1177) (by decide +kernel), List.mem_of_getElem? (i := 1178) (by decide +kernel)⟩
theorem lw_p58 : lw_okq (⟨"ChainChoiceModel", "next", "()I"⟩, 35) := ⟨⟨by decide +kernel, by decide +kernel⟩, List.mem_of_getElem? (i := 914) (by decide +kernel), List.mem_of_getElem? (i := 1219) (by decide +kernel), List.mem_of_getElem? (i := 1220) (by decide +kernel)⟩
theorem lw_p59 : lw_okq (⟨"ChainChoiceModel", "fail", "(II)V"⟩, 35) := ⟨⟨by decide +kernel, by decide +kernel⟩, List.mem_of_getElem? (i := 914) (by decide +kernel), List.mem_of_getElem? (i := 1223) (by decide +kernel), List.mem_of_getElem? (i := 1224) (by decide +kernel)⟩
theorem lw_p60 : lw_okq (⟨"ChainChoiceModel", "must", "(ZI)V"⟩, 35) := ⟨⟨by decide +kernel, by decide +kernel⟩, List.mem_of_getElem? (i := 914) (by decide +kernel), List.mem_of_getElem? (i := 1227) (by decide +kernel), List.mem_of_getElem? (i := 1228) (by decide +kernel)⟩
theorem lw_p61 : lw_okq (⟨"ChainChoiceModel", "come", "(I)V"⟩, 35) := ⟨⟨by decide +kernel, by decide +kernel⟩, List.mem_of_getElem? (i := 914) (by decide +kernel), List.mem_of_getElem? (i := 1231) (by decide +kernel), List.mem_of_getElem? (i := 1232) (by decide +kernel)⟩
theorem lw_p62 : lw_okq (⟨"ChainChoiceModel", "readBits", "()V"⟩, 35) := ⟨⟨by decide +kernel, by decide +kernel⟩, List.mem_of_getElem? (i := 914) (by decide +kernel), List.mem_of_getElem? (i := 1235) (by decide +kernel), List.mem_of_getElem? (i := 1236) (by decide +kernel)⟩
theorem lw_p63 : lw_okq (⟨"ChainChoiceModel", "bit", "()I"⟩, 35) := ⟨⟨by decide +kernel, by decide +kernel⟩, List.mem_of_getElem? (i := 914) (by decide +kernel), List.mem_of_getElem? (i := 1239) (by decide +kernel), List.mem_of_getElem? (i := 1240) (by decide +kernel)⟩
def lw_privs_4 : List (MethodName × Nat) := [(⟨"ChainChoiceModel", "packBits", "(I)V"⟩, 35), (⟨"ChainChoiceModel", "countBytes", "(I)I"⟩, 35), (⟨"ChainChoiceModel", "bits", "(II)V"⟩, 35), (⟨"ChainChoiceModel", "packPrefix", "(I)V"⟩, 35), (⟨"ChainChoiceModel", "findLengths", "(I)V"⟩, 35), (⟨"ChainChoiceModel", "least", "(II)I"⟩, 35), (⟨"ChainChoiceModel", "findCodes", "()V"⟩, 35), (⟨"ChainChoiceModel", "packMatches", "(I)V"⟩, 35), (⟨"ChainChoiceModel", "match", "(II)V"⟩, 35), (⟨"ChainChoiceModel", "isFlat", "()Z"⟩, 35), (⟨"ChainChoiceModel", "next", "()I"⟩, 35), (⟨"ChainChoiceModel", "fail", "(II)V"⟩, 35), (⟨"ChainChoiceModel", "must", "(ZI)V"⟩, 35), (⟨"ChainChoiceModel", "come", "(I)V"⟩, 35), (⟨"ChainChoiceModel", "readBits", "()V"⟩, 35), (⟨"ChainChoiceModel", "bit", "()I"⟩, 35)]
theorem lw_r4 : ∀ q ∈ lw_privs_4, lw_okq q := List.forall_mem_cons.mpr ⟨lw_p48, List.forall_mem_cons.mpr ⟨lw_p49, List.forall_mem_cons.mpr ⟨lw_p50, List.forall_mem_cons.mpr ⟨lw_p51, List.forall_mem_cons.mpr ⟨lw_p52, List.forall_mem_cons.mpr ⟨lw_p53, List.forall_mem_cons.mpr ⟨lw_p54, List.forall_mem_cons.mpr ⟨lw_p55, List.forall_mem_cons.mpr ⟨lw_p56, List.forall_mem_cons.mpr ⟨lw_p57, List.forall_mem_cons.mpr ⟨lw_p58, List.forall_mem_cons.mpr ⟨lw_p59, List.forall_mem_cons.mpr ⟨lw_p60, List.forall_mem_cons.mpr ⟨lw_p61, List.forall_mem_cons.mpr ⟨lw_p62, List.forall_mem_cons.mpr ⟨lw_p63, fun _ h => absurd h List.not_mem_nil⟩⟩⟩⟩⟩⟩⟩⟩⟩⟩⟩⟩⟩⟩⟩⟩
theorem lw_p64 : lw_okq (⟨"ChainChoiceModel", "endBits", "()V"⟩, 35) := ⟨⟨by decide +kernel, by decide +kernel⟩, List.mem_of_getElem? (i := 914) (by decide +kernel), List.mem_of_getElem? (i := 1243) (by decide +kernel), List.mem_of_getElem? (i := 1244) (by decide +kernel)⟩
theorem lw_p65 : lw_okq (⟨"ChainChoiceModel", "readPrefix", "()V"⟩, 35) := ⟨⟨by decide +kernel, by decide +kernel⟩, List.mem_of_getElem? (i := 914) (by decide +kernel), List.mem_of_getElem? (i := 1247) (by decide +kernel), List.mem_of_getElem? (i := 1248) (by decide +kernel)⟩
theorem lw_p66 : lw_okq (⟨"ChainChoiceModel", "readCode", "(II)V"⟩, 35) := ⟨⟨by decide +kernel, by decide +kernel⟩, List.mem_of_getElem? (i := 914) (by decide +kernel), List.mem_of_getElem? (i := 1252) (by decide +kernel), List.mem_of_getElem? (i := 1253) (by decide +kernel)⟩
theorem lw_p67 : lw_okq (⟨"ChainChoiceModel", "readItems", "(Z)V"⟩, 35) := ⟨⟨by decide +kernel, by decide +kernel⟩, List.mem_of_getElem? (i := 914) (by decide +kernel), List.mem_of_getElem? (i := 1256) (by decide +kernel), List.mem_of_getElem? (i := 1257) (by decide +kernel)⟩
def lw_privs_5 : List (MethodName × Nat) := [(⟨"ChainChoiceModel", "endBits", "()V"⟩, 35), (⟨"ChainChoiceModel", "readPrefix", "()V"⟩, 35), (⟨"ChainChoiceModel", "readCode", "(II)V"⟩, 35), (⟨"ChainChoiceModel", "readItems", "(Z)V"⟩, 35)]
theorem lw_r5 : ∀ q ∈ lw_privs_5, lw_okq q := List.forall_mem_cons.mpr ⟨lw_p64, List.forall_mem_cons.mpr ⟨lw_p65, List.forall_mem_cons.mpr ⟨lw_p66, List.forall_mem_cons.mpr ⟨lw_p67, fun _ h => absurd h List.not_mem_nil⟩⟩⟩⟩
def lw_privs : List (MethodName × Nat) := lw_privs_1 ++ (lw_privs_2 ++ (lw_privs_3 ++ (lw_privs_4 ++ (lw_privs_5))))
def lw_tbl : List Cond := k2_sels lw_privs ++ tables_1
theorem lw_privs_ok : ∀ q ∈ lw_privs, lw_okq q := by
  show ∀ q ∈ lw_privs_1 ++ (lw_privs_2 ++ (lw_privs_3 ++ (lw_privs_4 ++ (lw_privs_5)))), lw_okq q
  exact List.forall_mem_append.mpr ⟨lw_r1, List.forall_mem_append.mpr ⟨lw_r2, List.forall_mem_append.mpr ⟨lw_r3, List.forall_mem_append.mpr ⟨lw_r4, lw_r5⟩⟩⟩⟩
end
section
def RX0 : String := "ChainChoice$BitWriter"
def TX0 : u_T := fun k => match k with
  | 0 => ("ChainChoice$BitWriter", "held", "I", false)
  | _ => ("ChainChoice$BitWriter", "used", "I", false)
def tyX0 : Nat → FieldType := fun k => match k with
  | 0 => .int
  | _ => .int
abbrev wsX00 : List Cond := u_ws RX0 TX0 2
theorem nmX0 : ∀ a, a < 2 → ∀ b, b < 2 → a ≠ b → (TX0 a).2.1 ≠ (TX0 b).2.1 := by decide +kernel
theorem tyX0_ok : ∀ k, k < 2 → parseFieldDescriptor (TX0 k).2.2.1 = some (tyX0 k) := by decide +kernel
abbrev cX0_init : ByteArray := prog_2_method_1_code
def yX0_init : MethodName := ⟨RX0, "<init>", "()V"⟩
abbrev cX0_put : ByteArray := prog_2_method_2_code
def yX0_put : MethodName := ⟨RX0, "put", "(IILChainChoice$Row;)V"⟩
abbrev cX0_finish : ByteArray := prog_2_method_3_code
def yX0_finish : MethodName := ⟨RX0, "finish", "(LChainChoice$Row;)V"⟩
def RX1 : String := "ChainChoice$Chains"
def TX1 : u_T := fun k => match k with
  | 0 => ("ChainChoice$Chains", "kinds", "[I", true)
  | 1 => ("ChainChoice$Chains", "values", "[I", true)
  | 2 => ("ChainChoice$Chains", "filterCount", "I", false)
  | 3 => ("ChainChoice$Chains", "packers", "[I", true)
  | _ => ("ChainChoice$Chains", "packerCount", "I", false)
def tyX1 : Nat → FieldType := fun k => match k with
  | 0 => .array .int
  | 1 => .array .int
  | 2 => .int
  | 3 => .array .int
  | _ => .int
abbrev wsX10 : List Cond := u_ws RX1 TX1 5
theorem nmX1 : ∀ a, a < 5 → ∀ b, b < 5 → a ≠ b → (TX1 a).2.1 ≠ (TX1 b).2.1 := by decide +kernel
theorem tyX1_ok : ∀ k, k < 5 → parseFieldDescriptor (TX1 k).2.2.1 = some (tyX1 k) := by decide +kernel
abbrev cX1_init : ByteArray := prog_3_method_1_code
def yX1_init : MethodName := ⟨RX1, "<init>", "()V"⟩
abbrev cX1_filterCount : ByteArray := prog_3_method_2_code
def yX1_filterCount : MethodName := ⟨RX1, "filterCount", "()I"⟩
abbrev cX1_packerCount : ByteArray := prog_3_method_3_code
def yX1_packerCount : MethodName := ⟨RX1, "packerCount", "()I"⟩
abbrev cX1_tellFilter : ByteArray := prog_3_method_4_code
def yX1_tellFilter : MethodName := ⟨RX1, "tellFilter", "(II)V"⟩
abbrev cX1_tellPacker : ByteArray := prog_3_method_5_code
def yX1_tellPacker : MethodName := ⟨RX1, "tellPacker", "(I)V"⟩
abbrev cX1_tellNothing : ByteArray := prog_3_method_6_code
def yX1_tellNothing : MethodName := ⟨RX1, "tellNothing", "()V"⟩
abbrev cX1_hasPacker : ByteArray := prog_3_method_7_code
def yX1_hasPacker : MethodName := ⟨RX1, "hasPacker", "(I)Z"⟩
abbrev cX1_many : ByteArray := prog_3_method_8_code
def yX1_many : MethodName := ⟨RX1, "many", "()I"⟩
abbrev cX1_has : ByteArray := prog_3_method_9_code
def yX1_has : MethodName := ⟨RX1, "has", "(I)Z"⟩
abbrev cX1_groupOf : ByteArray := prog_3_method_10_code
def yX1_groupOf : MethodName := ⟨RX1, "groupOf", "(I)I"⟩
abbrev cX1_packerOf : ByteArray := prog_3_method_11_code
def yX1_packerOf : MethodName := ⟨RX1, "packerOf", "(I)I"⟩
abbrev cX1_filterOf : ByteArray := prog_3_method_12_code
def yX1_filterOf : MethodName := ⟨RX1, "filterOf", "(II)I"⟩
abbrev cX1_filtersIn : ByteArray := prog_3_method_13_code
def yX1_filtersIn : MethodName := ⟨RX1, "filtersIn", "(I)I"⟩
abbrev cX1_kindOf : ByteArray := prog_3_method_14_code
def yX1_kindOf : MethodName := ⟨RX1, "kindOf", "(I)I"⟩
abbrev cX1_valueOf : ByteArray := prog_3_method_15_code
def yX1_valueOf : MethodName := ⟨RX1, "valueOf", "(I)I"⟩
abbrev cX1_stepsOf : ByteArray := prog_3_method_16_code
def yX1_stepsOf : MethodName := ⟨RX1, "stepsOf", "(I)I"⟩
abbrev cX1_memoryOf : ByteArray := prog_3_method_17_code
def yX1_memoryOf : MethodName := ⟨RX1, "memoryOf", "(I)I"⟩
abbrev cX1_valueIn : ByteArray := prog_3_method_18_code
def yX1_valueIn : MethodName := ⟨RX1, "valueIn", "([II)I"⟩
def RX2 : String := "ChainChoice$Filters"
def TX2 : u_T := fun k => match k with
  | _ => ("ChainChoice$Filters", "order", "[I", true)
def tyX2 : Nat → FieldType := fun k => match k with
  | _ => .array .int
abbrev wsX20 : List Cond := u_ws RX2 TX2 1
theorem nmX2 : ∀ a, a < 1 → ∀ b, b < 1 → a ≠ b → (TX2 a).2.1 ≠ (TX2 b).2.1 := by decide +kernel
theorem tyX2_ok : ∀ k, k < 1 → parseFieldDescriptor (TX2 k).2.2.1 = some (tyX2 k) := by decide +kernel
abbrev cX2_init : ByteArray := prog_4_method_1_code
def yX2_init : MethodName := ⟨RX2, "<init>", "()V"⟩
abbrev cX2_isKind : ByteArray := prog_4_method_2_code
def yX2_isKind : MethodName := ⟨RX2, "isKind", "(I)Z"⟩
abbrev cX2_takes : ByteArray := prog_4_method_3_code
def yX2_takes : MethodName := ⟨RX2, "takes", "(II)Z"⟩
abbrev cX2_make : ByteArray := prog_4_method_4_code
def yX2_make : MethodName := ⟨RX2, "make", "(IILChainChoice$Row;LChainChoice$Row;)V"⟩
abbrev cX2_undo : ByteArray := prog_4_method_5_code
def yX2_undo : MethodName := ⟨RX2, "undo", "(IILChainChoice$Row;LChainChoice$Row;)V"⟩
abbrev cX2_mask : ByteArray := prog_4_method_6_code
def yX2_mask : MethodName := ⟨RX2, "mask", "(ILChainChoice$Row;LChainChoice$Row;)V"⟩
abbrev cX2_gatherPlanes : ByteArray := prog_4_method_7_code
def yX2_gatherPlanes : MethodName := ⟨RX2, "gatherPlanes", "(ILChainChoice$Row;LChainChoice$Row;)V"⟩
abbrev cX2_spreadPlanes : ByteArray := prog_4_method_8_code
def yX2_spreadPlanes : MethodName := ⟨RX2, "spreadPlanes", "(ILChainChoice$Row;LChainChoice$Row;)V"⟩
abbrev cX2_startOrder : ByteArray := prog_4_method_9_code
def yX2_startOrder : MethodName := ⟨RX2, "startOrder", "()V"⟩
abbrev cX2_bringToFront : ByteArray := prog_4_method_10_code
def yX2_bringToFront : MethodName := ⟨RX2, "bringToFront", "(I)I"⟩
abbrev cX2_takeToFront : ByteArray := prog_4_method_11_code
def yX2_takeToFront : MethodName := ⟨RX2, "takeToFront", "(I)I"⟩
def RX3 : String := "ChainChoice$Packers"
def TX3 : u_T := fun k => match k with
  | 0 => ("ChainChoice$Packers", "often", "[I", true)
  | 1 => ("ChainChoice$Packers", "ranks", "[I", true)
  | 2 => ("ChainChoice$Packers", "latest", "[I", true)
  | 3 => ("ChainChoice$Packers", "earlier", "[I", true)
  | 4 => ("ChainChoice$Packers", "bits", "LChainChoice$BitWriter;", true)
  | 5 => ("ChainChoice$Packers", "tree", "LChainChoice$Tree;", true)
  | 6 => ("ChainChoice$Packers", "code", "LChainChoice$PrefixCode;", true)
  | 7 => ("ChainChoice$Packers", "matchLength", "I", false)
  | _ => ("ChainChoice$Packers", "matchBack", "I", false)
def tyX3 : Nat → FieldType := fun k => match k with
  | 0 => .array .int
  | 1 => .array .int
  | 2 => .array .int
  | 3 => .array .int
  | 4 => .object "ChainChoice$BitWriter"
  | 5 => .object "ChainChoice$Tree"
  | 6 => .object "ChainChoice$PrefixCode"
  | 7 => .int
  | _ => .int
abbrev wsX30 : List Cond := u_ws RX3 TX3 9
theorem nmX3 : ∀ a, a < 9 → ∀ b, b < 9 → a ≠ b → (TX3 a).2.1 ≠ (TX3 b).2.1 := by decide +kernel
theorem tyX3_ok : ∀ k, k < 9 → parseFieldDescriptor (TX3 k).2.2.1 = some (tyX3 k) := by decide +kernel
abbrev cX3_init : ByteArray := prog_5_method_1_code
def yX3_init : MethodName := ⟨RX3, "<init>", "()V"⟩
abbrev cX3_write : ByteArray := prog_5_method_2_code
def yX3_write : MethodName := ⟨RX3, "write", "(ILChainChoice$Row;LChainChoice$Row;)V"⟩
abbrev cX3_copy : ByteArray := prog_5_method_3_code
def yX3_copy : MethodName := ⟨RX3, "copy", "(LChainChoice$Row;IILChainChoice$Row;)V"⟩
abbrev cX3_writePlain : ByteArray := prog_5_method_4_code
def yX3_writePlain : MethodName := ⟨RX3, "writePlain", "(LChainChoice$Row;IILChainChoice$Row;)V"⟩
abbrev cX3_writeRuns : ByteArray := prog_5_method_5_code
def yX3_writeRuns : MethodName := ⟨RX3, "writeRuns", "(LChainChoice$Row;LChainChoice$Row;)V"⟩
abbrev cX3_runAt : ByteArray := prog_5_method_6_code
def yX3_runAt : MethodName := ⟨RX3, "runAt", "(LChainChoice$Row;II)I"⟩
abbrev cX3_writeBits : ByteArray := prog_5_method_7_code
def yX3_writeBits : MethodName := ⟨RX3, "writeBits", "(LChainChoice$Row;LChainChoice$Row;)V"⟩
abbrev cX3_widthOf : ByteArray := prog_5_method_8_code
def yX3_widthOf : MethodName := ⟨RX3, "widthOf", "(I)I"⟩
abbrev cX3_writePrefix : ByteArray := prog_5_method_9_code
def yX3_writePrefix : MethodName := ⟨RX3, "writePrefix", "(LChainChoice$Row;LChainChoice$Row;)V"⟩
abbrev cX3_writeMatches : ByteArray := prog_5_method_10_code
def yX3_writeMatches : MethodName := ⟨RX3, "writeMatches", "(LChainChoice$Row;LChainChoice$Row;)V"⟩
abbrev cX3_endOfPlain : ByteArray := prog_5_method_11_code
def yX3_endOfPlain : MethodName := ⟨RX3, "endOfPlain", "(LChainChoice$Row;I)I"⟩
abbrev cX3_linkLikeBytes : ByteArray := prog_5_method_12_code
def yX3_linkLikeBytes : MethodName := ⟨RX3, "linkLikeBytes", "(LChainChoice$Row;)V"⟩
abbrev cX3_before : ByteArray := prog_5_method_13_code
def yX3_before : MethodName := ⟨RX3, "before", "(I)I"⟩
abbrev cX3_findMatch : ByteArray := prog_5_method_14_code
def yX3_findMatch : MethodName := ⟨RX3, "findMatch", "(LChainChoice$Row;I)V"⟩
def RX4 : String := "ChainChoice$PrefixCode"
def TX4 : u_T := fun k => match k with
  | 0 => ("ChainChoice$PrefixCode", "lengths", "[I", true)
  | 1 => ("ChainChoice$PrefixCode", "codes", "[I", true)
  | 2 => ("ChainChoice$PrefixCode", "ranked", "[I", true)
  | 3 => ("ChainChoice$PrefixCode", "ofLength", "[I", true)
  | 4 => ("ChainChoice$PrefixCode", "starts", "[I", true)
  | _ => ("ChainChoice$PrefixCode", "known", "I", false)
def tyX4 : Nat → FieldType := fun k => match k with
  | 0 => .array .int
  | 1 => .array .int
  | 2 => .array .int
  | 3 => .array .int
  | 4 => .array .int
  | _ => .int
abbrev wsX40 : List Cond := u_ws RX4 TX4 6
theorem nmX4 : ∀ a, a < 6 → ∀ b, b < 6 → a ≠ b → (TX4 a).2.1 ≠ (TX4 b).2.1 := by decide +kernel
theorem tyX4_ok : ∀ k, k < 6 → parseFieldDescriptor (TX4 k).2.2.1 = some (tyX4 k) := by decide +kernel
abbrev cX4_init : ByteArray := prog_6_method_1_code
def yX4_init : MethodName := ⟨RX4, "<init>", "()V"⟩
abbrev cX4_begin : ByteArray := prog_6_method_2_code
def yX4_begin : MethodName := ⟨RX4, "begin", "()V"⟩
abbrev cX4_give : ByteArray := prog_6_method_3_code
def yX4_give : MethodName := ⟨RX4, "give", "(II)V"⟩
abbrev cX4_lengthOf : ByteArray := prog_6_method_4_code
def yX4_lengthOf : MethodName := ⟨RX4, "lengthOf", "(I)I"⟩
abbrev cX4_codeOf : ByteArray := prog_6_method_5_code
def yX4_codeOf : MethodName := ⟨RX4, "codeOf", "(I)I"⟩
abbrev cX4_isWhole : ByteArray := prog_6_method_6_code
def yX4_isWhole : MethodName := ⟨RX4, "isWhole", "()Z"⟩
abbrev cX4_assign : ByteArray := prog_6_method_7_code
def yX4_assign : MethodName := ⟨RX4, "assign", "()V"⟩
abbrev cX4_rank : ByteArray := prog_6_method_8_code
def yX4_rank : MethodName := ⟨RX4, "rank", "()V"⟩
abbrev cX4_readFrom : ByteArray := prog_6_method_9_code
def yX4_readFrom : MethodName := ⟨RX4, "readFrom", "(LChainChoice$Reader;)I"⟩
def RX5 : String := "ChainChoice$Reader"
def TX5 : u_T := fun k => match k with
  | 0 => ("ChainChoice$Reader", "from", "LChainChoice$Row;", false)
  | 1 => ("ChainChoice$Reader", "at", "I", false)
  | 2 => ("ChainChoice$Reader", "held", "I", false)
  | 3 => ("ChainChoice$Reader", "left", "I", false)
  | 4 => ("ChainChoice$Reader", "fault", "I", false)
  | _ => ("ChainChoice$Reader", "faultPlace", "I", false)
def tyX5 : Nat → FieldType := fun k => match k with
  | 0 => .object "ChainChoice$Row"
  | 1 => .int
  | 2 => .int
  | 3 => .int
  | 4 => .int
  | _ => .int
abbrev wsX50 : List Cond := u_ws RX5 TX5 6
theorem nmX5 : ∀ a, a < 6 → ∀ b, b < 6 → a ≠ b → (TX5 a).2.1 ≠ (TX5 b).2.1 := by decide +kernel
theorem tyX5_ok : ∀ k, k < 6 → parseFieldDescriptor (TX5 k).2.2.1 = some (tyX5 k) := by decide +kernel
abbrev cX5_init : ByteArray := prog_7_method_1_code
def yX5_init : MethodName := ⟨RX5, "<init>", "()V"⟩
abbrev cX5_begin : ByteArray := prog_7_method_2_code
def yX5_begin : MethodName := ⟨RX5, "begin", "(LChainChoice$Row;)V"⟩
abbrev cX5_isFine : ByteArray := prog_7_method_3_code
def yX5_isFine : MethodName := ⟨RX5, "isFine", "()Z"⟩
abbrev cX5_fault : ByteArray := prog_7_method_4_code
def yX5_fault : MethodName := ⟨RX5, "fault", "()I"⟩
abbrev cX5_faultPlace : ByteArray := prog_7_method_5_code
def yX5_faultPlace : MethodName := ⟨RX5, "faultPlace", "()I"⟩
abbrev cX5_next : ByteArray := prog_7_method_6_code
def yX5_next : MethodName := ⟨RX5, "next", "()I"⟩
abbrev cX5_bit : ByteArray := prog_7_method_7_code
def yX5_bit : MethodName := ⟨RX5, "bit", "()I"⟩
abbrev cX5_blame : ByteArray := prog_7_method_8_code
def yX5_blame : MethodName := ⟨RX5, "blame", "(I)V"⟩
abbrev cX5_endBits : ByteArray := prog_7_method_9_code
def yX5_endBits : MethodName := ⟨RX5, "endBits", "()V"⟩
abbrev cX5_endBytes : ByteArray := prog_7_method_10_code
def yX5_endBytes : MethodName := ⟨RX5, "endBytes", "()V"⟩
abbrev cX5_blameAt : ByteArray := prog_7_method_11_code
def yX5_blameAt : MethodName := ⟨RX5, "blameAt", "(II)V"⟩
def RX6 : String := "ChainChoice$Row"
def TX6 : u_T := fun k => match k with
  | 0 => ("ChainChoice$Row", "cells", "[I", true)
  | _ => ("ChainChoice$Row", "length", "I", false)
def tyX6 : Nat → FieldType := fun k => match k with
  | 0 => .array .int
  | _ => .int
abbrev wsX60 : List Cond := u_ws RX6 TX6 2
theorem nmX6 : ∀ a, a < 2 → ∀ b, b < 2 → a ≠ b → (TX6 a).2.1 ≠ (TX6 b).2.1 := by decide +kernel
theorem tyX6_ok : ∀ k, k < 2 → parseFieldDescriptor (TX6 k).2.2.1 = some (tyX6 k) := by decide +kernel
abbrev cX6_init : ByteArray := prog_8_method_1_code
def yX6_init : MethodName := ⟨RX6, "<init>", "(I)V"⟩
abbrev cX6_count : ByteArray := prog_8_method_2_code
def yX6_count : MethodName := ⟨RX6, "count", "()I"⟩
abbrev cX6_has : ByteArray := prog_8_method_3_code
def yX6_has : MethodName := ⟨RX6, "has", "(I)Z"⟩
abbrev cX6_get : ByteArray := prog_8_method_4_code
def yX6_get : MethodName := ⟨RX6, "get", "(I)I"⟩
abbrev cX6_set : ByteArray := prog_8_method_5_code
def yX6_set : MethodName := ⟨RX6, "set", "(II)V"⟩
abbrev cX6_push : ByteArray := prog_8_method_6_code
def yX6_push : MethodName := ⟨RX6, "push", "(I)V"⟩
abbrev cX6_empty : ByteArray := prog_8_method_7_code
def yX6_empty : MethodName := ⟨RX6, "empty", "()V"⟩
abbrev cX6_keep : ByteArray := prog_8_method_8_code
def yX6_keep : MethodName := ⟨RX6, "keep", "(I)V"⟩
abbrev cX6_become : ByteArray := prog_8_method_9_code
def yX6_become : MethodName := ⟨RX6, "become", "(LChainChoice$Row;)V"⟩
abbrev cX6_countInto : ByteArray := prog_8_method_10_code
def yX6_countInto : MethodName := ⟨RX6, "countInto", "([I)I"⟩
def RX7 : String := "ChainChoice$Traits"
def TX7 : u_T := fun k => match k with
  | _ => ("ChainChoice$Traits", "often", "[I", true)
def tyX7 : Nat → FieldType := fun k => match k with
  | _ => .array .int
abbrev wsX70 : List Cond := u_ws RX7 TX7 1
theorem nmX7 : ∀ a, a < 1 → ∀ b, b < 1 → a ≠ b → (TX7 a).2.1 ≠ (TX7 b).2.1 := by decide +kernel
theorem tyX7_ok : ∀ k, k < 1 → parseFieldDescriptor (TX7 k).2.2.1 = some (tyX7 k) := by decide +kernel
abbrev cX7_init : ByteArray := prog_9_method_1_code
def yX7_init : MethodName := ⟨RX7, "<init>", "()V"⟩
abbrev cX7_isFlat : ByteArray := prog_9_method_2_code
def yX7_isFlat : MethodName := ⟨RX7, "isFlat", "(LChainChoice$Row;)Z"⟩
abbrev cX7_featureOf : ByteArray := prog_9_method_3_code
def yX7_featureOf : MethodName := ⟨RX7, "featureOf", "(LChainChoice$Row;)I"⟩
abbrev cX7_variety : ByteArray := prog_9_method_4_code
def yX7_variety : MethodName := ⟨RX7, "variety", "(LChainChoice$Row;)I"⟩
abbrev cX7_quarters : ByteArray := prog_9_method_5_code
def yX7_quarters : MethodName := ⟨RX7, "quarters", "(II)I"⟩
def RX8 : String := "ChainChoice$Tree"
def TX8 : u_T := fun k => match k with
  | 0 => ("ChainChoice$Tree", "weights", "[I", true)
  | 1 => ("ChainChoice$Tree", "parents", "[I", true)
  | 2 => ("ChainChoice$Tree", "depths", "[I", true)
  | 3 => ("ChainChoice$Tree", "leaves", "[I", true)
  | 4 => ("ChainChoice$Tree", "leafCount", "I", false)
  | 5 => ("ChainChoice$Tree", "nextLeaf", "I", false)
  | _ => ("ChainChoice$Tree", "nextJoined", "I", false)
def tyX8 : Nat → FieldType := fun k => match k with
  | 0 => .array .int
  | 1 => .array .int
  | 2 => .array .int
  | 3 => .array .int
  | 4 => .int
  | 5 => .int
  | _ => .int
abbrev wsX80 : List Cond := u_ws RX8 TX8 7
theorem nmX8 : ∀ a, a < 7 → ∀ b, b < 7 → a ≠ b → (TX8 a).2.1 ≠ (TX8 b).2.1 := by decide +kernel
theorem tyX8_ok : ∀ k, k < 7 → parseFieldDescriptor (TX8 k).2.2.1 = some (tyX8 k) := by decide +kernel
abbrev cX8_init : ByteArray := prog_10_method_1_code
def yX8_init : MethodName := ⟨RX8, "<init>", "()V"⟩
abbrev cX8_grow : ByteArray := prog_10_method_2_code
def yX8_grow : MethodName := ⟨RX8, "grow", "([ILChainChoice$PrefixCode;)V"⟩
abbrev cX8_sortLeaves : ByteArray := prog_10_method_3_code
def yX8_sortLeaves : MethodName := ⟨RX8, "sortLeaves", "([I)V"⟩
abbrev cX8_join : ByteArray := prog_10_method_4_code
def yX8_join : MethodName := ⟨RX8, "join", "()V"⟩
abbrev cX8_takeLeast : ByteArray := prog_10_method_5_code
def yX8_takeLeast : MethodName := ⟨RX8, "takeLeast", "(I)I"⟩
abbrev cX8_measure : ByteArray := prog_10_method_6_code
def yX8_measure : MethodName := ⟨RX8, "measure", "(LChainChoice$PrefixCode;)V"⟩
def RX9 : String := "ChainChoice$Unpacker"
def TX9 : u_T := fun k => match k with
  | 0 => ("ChainChoice$Unpacker", "in", "LChainChoice$Reader;", true)
  | 1 => ("ChainChoice$Unpacker", "kinds", "[I", true)
  | 2 => ("ChainChoice$Unpacker", "values", "[I", true)
  | 3 => ("ChainChoice$Unpacker", "unlike", "[I", true)
  | 4 => ("ChainChoice$Unpacker", "code", "LChainChoice$PrefixCode;", true)
  | 5 => ("ChainChoice$Unpacker", "filters", "LChainChoice$Filters;", true)
  | 6 => ("ChainChoice$Unpacker", "made", "LChainChoice$Row;", true)
  | 7 => ("ChainChoice$Unpacker", "undone", "LChainChoice$Row;", true)
  | 8 => ("ChainChoice$Unpacker", "filterCount", "I", false)
  | 9 => ("ChainChoice$Unpacker", "packerKind", "I", false)
  | _ => ("ChainChoice$Unpacker", "count", "I", false)
def tyX9 : Nat → FieldType := fun k => match k with
  | 0 => .object "ChainChoice$Reader"
  | 1 => .array .int
  | 2 => .array .int
  | 3 => .array .int
  | 4 => .object "ChainChoice$PrefixCode"
  | 5 => .object "ChainChoice$Filters"
  | 6 => .object "ChainChoice$Row"
  | 7 => .object "ChainChoice$Row"
  | 8 => .int
  | 9 => .int
  | _ => .int
abbrev wsX90 : List Cond := u_ws RX9 TX9 11
theorem nmX9 : ∀ a, a < 11 → ∀ b, b < 11 → a ≠ b → (TX9 a).2.1 ≠ (TX9 b).2.1 := by decide +kernel
theorem tyX9_ok : ∀ k, k < 11 → parseFieldDescriptor (TX9 k).2.2.1 = some (tyX9 k) := by decide +kernel
abbrev cX9_init : ByteArray := prog_11_method_1_code
def yX9_init : MethodName := ⟨RX9, "<init>", "()V"⟩
abbrev cX9_faultPlace : ByteArray := prog_11_method_2_code
def yX9_faultPlace : MethodName := ⟨RX9, "faultPlace", "()I"⟩
abbrev cX9_readHead : ByteArray := prog_11_method_3_code
def yX9_readHead : MethodName := ⟨RX9, "readHead", "(LChainChoice$Row;)V"⟩
abbrev cX9_readFilters : ByteArray := prog_11_method_4_code
def yX9_readFilters : MethodName := ⟨RX9, "readFilters", "()V"⟩
abbrev cX9_readBody : ByteArray := prog_11_method_5_code
def yX9_readBody : MethodName := ⟨RX9, "readBody", "()V"⟩
abbrev cX9_finish : ByteArray := prog_11_method_6_code
def yX9_finish : MethodName := ⟨RX9, "finish", "(LChainChoice$Row;)I"⟩
abbrev cX9_copy : ByteArray := prog_11_method_7_code
def yX9_copy : MethodName := ⟨RX9, "copy", "(I)V"⟩
abbrev cX9_readItems : ByteArray := prog_11_method_8_code
def yX9_readItems : MethodName := ⟨RX9, "readItems", "()V"⟩
abbrev cX9_repeat : ByteArray := prog_11_method_9_code
def yX9_repeat : MethodName := ⟨RX9, "repeat", "(I)V"⟩
abbrev cX9_copyBack : ByteArray := prog_11_method_10_code
def yX9_copyBack : MethodName := ⟨RX9, "copyBack", "(I)V"⟩
abbrev cX9_readBits : ByteArray := prog_11_method_11_code
def yX9_readBits : MethodName := ⟨RX9, "readBits", "()V"⟩
abbrev cX9_readRising : ByteArray := prog_11_method_12_code
def yX9_readRising : MethodName := ⟨RX9, "readRising", "(I)I"⟩
abbrev cX9_readPrefix : ByteArray := prog_11_method_13_code
def yX9_readPrefix : MethodName := ⟨RX9, "readPrefix", "()V"⟩
abbrev cX9_readLengths : ByteArray := prog_11_method_14_code
def yX9_readLengths : MethodName := ⟨RX9, "readLengths", "()V"⟩
abbrev cX9_undoFilters : ByteArray := prog_11_method_15_code
def yX9_undoFilters : MethodName := ⟨RX9, "undoFilters", "()V"⟩
def RX10 : String := "ChainChoice"
def TX10 : u_T := fun k => match k with
  | 0 => ("ChainChoice", "text", "LChainChoice$Row;", true)
  | 1 => ("ChainChoice", "out", "LChainChoice$Row;", true)
  | 2 => ("ChainChoice", "trial", "LChainChoice$Row;", true)
  | 3 => ("ChainChoice", "once", "LChainChoice$Row;", true)
  | 4 => ("ChainChoice", "twice", "LChainChoice$Row;", true)
  | 5 => ("ChainChoice", "list", "LChainChoice$Chains;", true)
  | 6 => ("ChainChoice", "filters", "LChainChoice$Filters;", true)
  | 7 => ("ChainChoice", "packers", "LChainChoice$Packers;", true)
  | 8 => ("ChainChoice", "unpacker", "LChainChoice$Unpacker;", true)
  | 9 => ("ChainChoice", "traits", "LChainChoice$Traits;", true)
  | 10 => ("ChainChoice", "choice", "[I", true)
  | 11 => ("ChainChoice", "lessons", "[I", true)
  | 12 => ("ChainChoice", "hasChoice", "Z", false)
  | _ => ("ChainChoice", "faultPlace", "I", false)
def tyX10 : Nat → FieldType := fun k => match k with
  | 0 => .object "ChainChoice$Row"
  | 1 => .object "ChainChoice$Row"
  | 2 => .object "ChainChoice$Row"
  | 3 => .object "ChainChoice$Row"
  | 4 => .object "ChainChoice$Row"
  | 5 => .object "ChainChoice$Chains"
  | 6 => .object "ChainChoice$Filters"
  | 7 => .object "ChainChoice$Packers"
  | 8 => .object "ChainChoice$Unpacker"
  | 9 => .object "ChainChoice$Traits"
  | 10 => .array .int
  | 11 => .array .int
  | 12 => .boolean
  | _ => .int
abbrev wsX100 : List Cond := u_ws RX10 TX10 14
theorem nmX10 : ∀ a, a < 14 → ∀ b, b < 14 → a ≠ b → (TX10 a).2.1 ≠ (TX10 b).2.1 := by decide +kernel
theorem tyX10_ok : ∀ k, k < 14 → parseFieldDescriptor (TX10 k).2.2.1 = some (tyX10 k) := by decide +kernel
abbrev cX10_init : ByteArray := prog_1_method_1_code
def yX10_init : MethodName := ⟨RX10, "<init>", "()V"⟩
abbrev cX10_clear : ByteArray := prog_1_method_2_code
def yX10_clear : MethodName := ⟨RX10, "clear", "()I"⟩
abbrev cX10_add : ByteArray := prog_1_method_3_code
def yX10_add : MethodName := ⟨RX10, "add", "(I)I"⟩
abbrev cX10_fill : ByteArray := prog_1_method_4_code
def yX10_fill : MethodName := ⟨RX10, "fill", "(III)I"⟩
abbrev cX10_size : ByteArray := prog_1_method_5_code
def yX10_size : MethodName := ⟨RX10, "size", "(I)I"⟩
abbrev cX10_octet : ByteArray := prog_1_method_6_code
def yX10_octet : MethodName := ⟨RX10, "octet", "(II)I"⟩
abbrev cX10_filter : ByteArray := prog_1_method_7_code
def yX10_filter : MethodName := ⟨RX10, "filter", "(II)I"⟩
abbrev cX10_packer : ByteArray := prog_1_method_8_code
def yX10_packer : MethodName := ⟨RX10, "packer", "(I)I"⟩
abbrev cX10_forget : ByteArray := prog_1_method_9_code
def yX10_forget : MethodName := ⟨RX10, "forget", "()I"⟩
abbrev cX10_chains : ByteArray := prog_1_method_10_code
def yX10_chains : MethodName := ⟨RX10, "chains", "()I"⟩
abbrev cX10_chain : ByteArray := prog_1_method_11_code
def yX10_chain : MethodName := ⟨RX10, "chain", "(II)I"⟩
abbrev cX10_choose : ByteArray := prog_1_method_12_code
def yX10_choose : MethodName := ⟨RX10, "choose", "(II)I"⟩
abbrev cX10_told : ByteArray := prog_1_method_13_code
def yX10_told : MethodName := ⟨RX10, "told", "(I)I"⟩
abbrev cX10_learn : ByteArray := prog_1_method_14_code
def yX10_learn : MethodName := ⟨RX10, "learn", "()I"⟩
abbrev cX10_feature : ByteArray := prog_1_method_15_code
def yX10_feature : MethodName := ⟨RX10, "feature", "()I"⟩
abbrev cX10_learned : ByteArray := prog_1_method_16_code
def yX10_learned : MethodName := ⟨RX10, "learned", "(I)I"⟩
abbrev cX10_share : ByteArray := prog_1_method_17_code
def yX10_share : MethodName := ⟨RX10, "share", "(II)J"⟩
abbrev cX10_pack : ByteArray := prog_1_method_18_code
def yX10_pack : MethodName := ⟨RX10, "pack", "(I)I"⟩
abbrev cX10_alter : ByteArray := prog_1_method_19_code
def yX10_alter : MethodName := ⟨RX10, "alter", "(II)I"⟩
abbrev cX10_cut : ByteArray := prog_1_method_20_code
def yX10_cut : MethodName := ⟨RX10, "cut", "(I)I"⟩
abbrev cX10_unpack : ByteArray := prog_1_method_21_code
def yX10_unpack : MethodName := ⟨RX10, "unpack", "()I"⟩
abbrev cX10_place : ByteArray := prog_1_method_22_code
def yX10_place : MethodName := ⟨RX10, "place", "()I"⟩
abbrev cX10_isByte : ByteArray := prog_1_method_23_code
def yX10_isByte : MethodName := ⟨RX10, "isByte", "(I)Z"⟩
abbrev cX10_drawn : ByteArray := prog_1_method_24_code
def yX10_drawn : MethodName := ⟨RX10, "drawn", "(III)I"⟩
abbrev cX10_rowOf : ByteArray := prog_1_method_25_code
def yX10_rowOf : MethodName := ⟨RX10, "rowOf", "(I)LChainChoice$Row;"⟩
abbrev cX10_dropChoices : ByteArray := prog_1_method_26_code
def yX10_dropChoices : MethodName := ⟨RX10, "dropChoices", "()V"⟩
abbrev cX10_filtered : ByteArray := prog_1_method_27_code
def yX10_filtered : MethodName := ⟨RX10, "filtered", "(I)LChainChoice$Row;"⟩
abbrev cX10_writeHead : ByteArray := prog_1_method_28_code
def yX10_writeHead : MethodName := ⟨RX10, "writeHead", "(ILChainChoice$Row;)V"⟩
abbrev cX10_tryChains : ByteArray := prog_1_method_29_code
def yX10_tryChains : MethodName := ⟨RX10, "tryChains", "(II)V"⟩
abbrev cX10_isBetter : ByteArray := prog_1_method_30_code
def yX10_isBetter : MethodName := ⟨RX10, "isBetter", "(II)Z"⟩
def RX11 : String := "ChainChoiceModel"
def TX11 : u_T := fun k => match k with
  | 0 => ("ChainChoiceModel", "thrown", "I", false)
  | 1 => ("ChainChoiceModel", "size", "I", false)
  | 2 => ("ChainChoiceModel", "text", "[I", true)
  | 3 => ("ChainChoiceModel", "outSize", "I", false)
  | 4 => ("ChainChoiceModel", "out", "[I", true)
  | 5 => ("ChainChoiceModel", "filters", "I", false)
  | 6 => ("ChainChoiceModel", "kinds", "[I", true)
  | 7 => ("ChainChoiceModel", "values", "[I", true)
  | 8 => ("ChainChoiceModel", "packers", "I", false)
  | 9 => ("ChainChoiceModel", "packs", "[I", true)
  | 10 => ("ChainChoiceModel", "one", "I", false)
  | 11 => ("ChainChoiceModel", "two", "I", false)
  | 12 => ("ChainChoiceModel", "last", "I", false)
  | 13 => ("ChainChoiceModel", "row", "[I", true)
  | 14 => ("ChainChoiceModel", "other", "[I", true)
  | 15 => ("ChainChoiceModel", "madeSize", "I", false)
  | 16 => ("ChainChoiceModel", "made", "[I", true)
  | 17 => ("ChainChoiceModel", "taken", "I", false)
  | 18 => ("ChainChoiceModel", "often", "[I", true)
  | 19 => ("ChainChoiceModel", "lengths", "[I", true)
  | 20 => ("ChainChoiceModel", "codes", "[I", true)
  | 21 => ("ChainChoiceModel", "weights", "[I", true)
  | 22 => ("ChainChoiceModel", "above", "[I", true)
  | 23 => ("ChainChoiceModel", "list", "[I", true)
  | 24 => ("ChainChoiceModel", "chosen", "Z", false)
  | 25 => ("ChainChoiceModel", "chose", "[I", true)
  | 26 => ("ChainChoiceModel", "learned", "[I", true)
  | 27 => ("ChainChoiceModel", "fault", "I", false)
  | 28 => ("ChainChoiceModel", "faultAt", "I", false)
  | 29 => ("ChainChoiceModel", "matched", "I", false)
  | 30 => ("ChainChoiceModel", "back", "I", false)
  | 31 => ("ChainChoiceModel", "at", "I", false)
  | 32 => ("ChainChoiceModel", "got", "I", false)
  | 33 => ("ChainChoiceModel", "due", "I", false)
  | _ => ("ChainChoiceModel", "used", "I", false)
def tyX11 : Nat → FieldType := fun k => match k with
  | 0 => .int
  | 1 => .int
  | 2 => .array .int
  | 3 => .int
  | 4 => .array .int
  | 5 => .int
  | 6 => .array .int
  | 7 => .array .int
  | 8 => .int
  | 9 => .array .int
  | 10 => .int
  | 11 => .int
  | 12 => .int
  | 13 => .array .int
  | 14 => .array .int
  | 15 => .int
  | 16 => .array .int
  | 17 => .int
  | 18 => .array .int
  | 19 => .array .int
  | 20 => .array .int
  | 21 => .array .int
  | 22 => .array .int
  | 23 => .array .int
  | 24 => .boolean
  | 25 => .array .int
  | 26 => .array .int
  | 27 => .int
  | 28 => .int
  | 29 => .int
  | 30 => .int
  | 31 => .int
  | 32 => .int
  | 33 => .int
  | _ => .int
abbrev wsX110 : List Cond := u_ws RX11 TX11 35
theorem nmX11 : ∀ a, a < 35 → ∀ b, b < 35 → a ≠ b → (TX11 a).2.1 ≠ (TX11 b).2.1 := by decide +kernel
theorem tyX11_ok : ∀ k, k < 35 → parseFieldDescriptor (TX11 k).2.2.1 = some (tyX11 k) := by decide +kernel
abbrev cX11_init : ByteArray := prog_13_method_1_code
def yX11_init : MethodName := ⟨RX11, "<init>", "()V"⟩
abbrev cX11_thrown : ByteArray := prog_13_method_2_code
def yX11_thrown : MethodName := ⟨RX11, "thrown", "()I"⟩
abbrev cX11_in : ByteArray := prog_13_method_3_code
def yX11_in : MethodName := ⟨RX11, "in", "(III)Z"⟩
abbrev cX11_lose : ByteArray := prog_13_method_4_code
def yX11_lose : MethodName := ⟨RX11, "lose", "()V"⟩
abbrev cX11_clear : ByteArray := prog_13_method_5_code
def yX11_clear : MethodName := ⟨RX11, "clear", "()I"⟩
abbrev cX11_add : ByteArray := prog_13_method_6_code
def yX11_add : MethodName := ⟨RX11, "add", "(I)I"⟩
abbrev cX11_fill : ByteArray := prog_13_method_7_code
def yX11_fill : MethodName := ⟨RX11, "fill", "(III)I"⟩
abbrev cX11_size : ByteArray := prog_13_method_8_code
def yX11_size : MethodName := ⟨RX11, "size", "(I)I"⟩
abbrev cX11_octet : ByteArray := prog_13_method_9_code
def yX11_octet : MethodName := ⟨RX11, "octet", "(II)I"⟩
abbrev cX11_isFilter : ByteArray := prog_13_method_10_code
def yX11_isFilter : MethodName := ⟨RX11, "isFilter", "(II)Z"⟩
abbrev cX11_filter : ByteArray := prog_13_method_11_code
def yX11_filter : MethodName := ⟨RX11, "filter", "(II)I"⟩
abbrev cX11_packer : ByteArray := prog_13_method_12_code
def yX11_packer : MethodName := ⟨RX11, "packer", "(I)I"⟩
abbrev cX11_chains : ByteArray := prog_13_method_13_code
def yX11_chains : MethodName := ⟨RX11, "chains", "()I"⟩
abbrev cX11_forget : ByteArray := prog_13_method_14_code
def yX11_forget : MethodName := ⟨RX11, "forget", "()I"⟩
abbrev cX11_part : ByteArray := prog_13_method_15_code
def yX11_part : MethodName := ⟨RX11, "part", "(I)V"⟩
abbrev cX11_stepsOf : ByteArray := prog_13_method_16_code
def yX11_stepsOf : MethodName := ⟨RX11, "stepsOf", "()I"⟩
abbrev cX11_memoryOf : ByteArray := prog_13_method_17_code
def yX11_memoryOf : MethodName := ⟨RX11, "memoryOf", "()I"⟩
abbrev cX11_beginList : ByteArray := prog_13_method_18_code
def yX11_beginList : MethodName := ⟨RX11, "beginList", "()V"⟩
abbrev cX11_front : ByteArray := prog_13_method_19_code
def yX11_front : MethodName := ⟨RX11, "front", "(I)V"⟩
abbrev cX11_placeOf : ByteArray := prog_13_method_20_code
def yX11_placeOf : MethodName := ⟨RX11, "placeOf", "(I)I"⟩
abbrev cX11_apply : ByteArray := prog_13_method_21_code
def yX11_apply : MethodName := ⟨RX11, "apply", "(IIIZ)V"⟩
abbrev cX11_put : ByteArray := prog_13_method_22_code
def yX11_put : MethodName := ⟨RX11, "put", "(I)V"⟩
abbrev cX11_bits : ByteArray := prog_13_method_23_code
def yX11_bits : MethodName := ⟨RX11, "bits", "(II)V"⟩
abbrev cX11_widthOf : ByteArray := prog_13_method_24_code
def yX11_widthOf : MethodName := ⟨RX11, "widthOf", "(I)I"⟩
abbrev cX11_like : ByteArray := prog_13_method_25_code
def yX11_like : MethodName := ⟨RX11, "like", "(II)I"⟩
abbrev cX11_putRow : ByteArray := prog_13_method_26_code
def yX11_putRow : MethodName := ⟨RX11, "putRow", "(II)V"⟩
abbrev cX11_packRuns : ByteArray := prog_13_method_27_code
def yX11_packRuns : MethodName := ⟨RX11, "packRuns", "(I)V"⟩
abbrev cX11_match : ByteArray := prog_13_method_28_code
def yX11_match : MethodName := ⟨RX11, "match", "(II)V"⟩
abbrev cX11_packMatches : ByteArray := prog_13_method_29_code
def yX11_packMatches : MethodName := ⟨RX11, "packMatches", "(I)V"⟩
abbrev cX11_countBytes : ByteArray := prog_13_method_30_code
def yX11_countBytes : MethodName := ⟨RX11, "countBytes", "(I)I"⟩
abbrev cX11_packBits : ByteArray := prog_13_method_31_code
def yX11_packBits : MethodName := ⟨RX11, "packBits", "(I)V"⟩
abbrev cX11_least : ByteArray := prog_13_method_32_code
def yX11_least : MethodName := ⟨RX11, "least", "(II)I"⟩
abbrev cX11_findLengths : ByteArray := prog_13_method_33_code
def yX11_findLengths : MethodName := ⟨RX11, "findLengths", "(I)V"⟩
abbrev cX11_findCodes : ByteArray := prog_13_method_34_code
def yX11_findCodes : MethodName := ⟨RX11, "findCodes", "()V"⟩
abbrev cX11_packPrefix : ByteArray := prog_13_method_35_code
def yX11_packPrefix : MethodName := ⟨RX11, "packPrefix", "(I)V"⟩
abbrev cX11_putFilter : ByteArray := prog_13_method_36_code
def yX11_putFilter : MethodName := ⟨RX11, "putFilter", "(I)V"⟩
abbrev cX11_packAll : ByteArray := prog_13_method_37_code
def yX11_packAll : MethodName := ⟨RX11, "packAll", "(I)V"⟩
abbrev cX11_chain : ByteArray := prog_13_method_38_code
def yX11_chain : MethodName := ⟨RX11, "chain", "(II)I"⟩
abbrev cX11_isFlat : ByteArray := prog_13_method_39_code
def yX11_isFlat : MethodName := ⟨RX11, "isFlat", "()Z"⟩
abbrev cX11_choose : ByteArray := prog_13_method_40_code
def yX11_choose : MethodName := ⟨RX11, "choose", "(II)I"⟩
abbrev cX11_told : ByteArray := prog_13_method_41_code
def yX11_told : MethodName := ⟨RX11, "told", "(I)I"⟩
abbrev cX11_feature : ByteArray := prog_13_method_42_code
def yX11_feature : MethodName := ⟨RX11, "feature", "()I"⟩
abbrev cX11_learn : ByteArray := prog_13_method_43_code
def yX11_learn : MethodName := ⟨RX11, "learn", "()I"⟩
abbrev cX11_learned : ByteArray := prog_13_method_44_code
def yX11_learned : MethodName := ⟨RX11, "learned", "(I)I"⟩
abbrev cX11_share : ByteArray := prog_13_method_45_code
def yX11_share : MethodName := ⟨RX11, "share", "(II)J"⟩
abbrev cX11_pack : ByteArray := prog_13_method_46_code
def yX11_pack : MethodName := ⟨RX11, "pack", "(I)I"⟩
abbrev cX11_alter : ByteArray := prog_13_method_47_code
def yX11_alter : MethodName := ⟨RX11, "alter", "(II)I"⟩
abbrev cX11_cut : ByteArray := prog_13_method_48_code
def yX11_cut : MethodName := ⟨RX11, "cut", "(I)I"⟩
abbrev cX11_fail : ByteArray := prog_13_method_49_code
def yX11_fail : MethodName := ⟨RX11, "fail", "(II)V"⟩
abbrev cX11_next : ByteArray := prog_13_method_50_code
def yX11_next : MethodName := ⟨RX11, "next", "()I"⟩
abbrev cX11_must : ByteArray := prog_13_method_51_code
def yX11_must : MethodName := ⟨RX11, "must", "(ZI)V"⟩
abbrev cX11_bit : ByteArray := prog_13_method_52_code
def yX11_bit : MethodName := ⟨RX11, "bit", "()I"⟩
abbrev cX11_come : ByteArray := prog_13_method_53_code
def yX11_come : MethodName := ⟨RX11, "come", "(I)V"⟩
abbrev cX11_endBits : ByteArray := prog_13_method_54_code
def yX11_endBits : MethodName := ⟨RX11, "endBits", "()V"⟩
abbrev cX11_readItems : ByteArray := prog_13_method_55_code
def yX11_readItems : MethodName := ⟨RX11, "readItems", "(Z)V"⟩
abbrev cX11_readBits : ByteArray := prog_13_method_56_code
def yX11_readBits : MethodName := ⟨RX11, "readBits", "()V"⟩
abbrev cX11_readPrefix : ByteArray := prog_13_method_57_code
def yX11_readPrefix : MethodName := ⟨RX11, "readPrefix", "()V"⟩
abbrev cX11_readCode : ByteArray := prog_13_method_58_code
def yX11_readCode : MethodName := ⟨RX11, "readCode", "(II)V"⟩
abbrev cX11_unpack : ByteArray := prog_13_method_59_code
def yX11_unpack : MethodName := ⟨RX11, "unpack", "()I"⟩
abbrev cX11_place : ByteArray := prog_13_method_60_code
def yX11_place : MethodName := ⟨RX11, "place", "()I"⟩
def RJ9 : String := "java/lang/Math"
abbrev cJ9_abs_0f7a4 : ByteArray := prog_16_method_59_code
def yJ9_abs_0f7a4 : MethodName := ⟨RJ9, "abs", "(I)I"⟩
abbrev cJ9_max_7cf53 : ByteArray := prog_16_method_65_code
def yJ9_max_7cf53 : MethodName := ⟨RJ9, "max", "(II)I"⟩
abbrev cJ9_min_7cf53 : ByteArray := prog_16_method_69_code
def yJ9_min_7cf53 : MethodName := ⟨RJ9, "min", "(II)I"⟩
def RJ0 : String := "java/lang/String"
def RJ10 : String := "java/lang/System"
def RJ7 : String := "java/util/Arrays"
abbrev cJ7_fill_53178 : ByteArray := prog_21_method_103_code
def yJ7_fill_53178 : MethodName := ⟨RJ7, "fill", "([II)V"⟩
def RL : String := "ChainChoiceLaw"
abbrev cL_share : ByteArray := method_3_code
def yL_share : MethodName := ⟨RL, "share", "(LChainChoice;II[J)I"⟩
abbrev cL_law : ByteArray := code
def yL_law : MethodName := ⟨RL, "law", "([I)Z"⟩
abbrev vwCl : List vw_C := [(RX0, TX0, 2), (RX1, TX1, 5), (RX2, TX2, 1), (RX3, TX3, 9), (RX4, TX4, 6), (RX5, TX5, 6), (RX6, TX6, 2), (RX7, TX7, 1), (RX8, TX8, 7), (RX9, TX9, 11), (RX10, TX10, 14), (RX11, TX11, 35)]
end
section
theorem dX0_init_0 : decode cX0_init 0 = .ok (.aload_n 0, 1) := by decide +kernel
theorem dX0_init_1 : decode cX0_init 1 = .ok (.invokespecial 1, 3) := by decide +kernel
theorem dX0_init_4 : decode cX0_init 4 = .ok (.aload_n 0, 1) := by decide +kernel
theorem dX0_init_5 : decode cX0_init 5 = .ok (.iconst 0, 1) := by decide +kernel
theorem dX0_init_6 : decode cX0_init 6 = .ok (.putfield 7, 3) := by decide +kernel
theorem dX0_init_9 : decode cX0_init 9 = .ok (.aload_n 0, 1) := by decide +kernel
theorem dX0_init_10 : decode cX0_init 10 = .ok (.iconst 0, 1) := by decide +kernel
theorem dX0_init_11 : decode cX0_init 11 = .ok (.putfield 13, 3) := by decide +kernel
theorem dX0_init_14 : decode cX0_init 14 = .ok (.return_, 1) := by decide +kernel
theorem dX0_put_0 : decode cX0_put 0 = .ok (.iload_n 2, 1) := by decide +kernel
theorem dX0_put_1 : decode cX0_put 1 = .ok (.iconst 1, 1) := by decide +kernel
theorem dX0_put_2 : decode cX0_put 2 = .ok (.isub, 1) := by decide +kernel
theorem dX0_put_3 : decode cX0_put 3 = .ok (.istore 4, 2) := by decide +kernel
theorem dX0_put_5 : decode cX0_put 5 = .ok (.iload 4, 2) := by decide +kernel
theorem dX0_put_7 : decode cX0_put 7 = .ok (.ifCond .lt 63, 3) := by decide +kernel
theorem dX0_put_10 : decode cX0_put 10 = .ok (.aload_n 0, 1) := by decide +kernel
theorem dX0_put_11 : decode cX0_put 11 = .ok (.aload_n 0, 1) := by decide +kernel
theorem dX0_put_12 : decode cX0_put 12 = .ok (.getfield 7, 3) := by decide +kernel
theorem dX0_put_15 : decode cX0_put 15 = .ok (.iconst 1, 1) := by decide +kernel
theorem dX0_put_16 : decode cX0_put 16 = .ok (.ishl, 1) := by decide +kernel
theorem dX0_put_17 : decode cX0_put 17 = .ok (.iload_n 1, 1) := by decide +kernel
theorem dX0_put_18 : decode cX0_put 18 = .ok (.iload 4, 2) := by decide +kernel
theorem dX0_put_20 : decode cX0_put 20 = .ok (.ishr, 1) := by decide +kernel
theorem dX0_put_21 : decode cX0_put 21 = .ok (.iconst 1, 1) := by decide +kernel
theorem dX0_put_22 : decode cX0_put 22 = .ok (.iand, 1) := by decide +kernel
theorem dX0_put_23 : decode cX0_put 23 = .ok (.ior, 1) := by decide +kernel
theorem dX0_put_24 : decode cX0_put 24 = .ok (.putfield 7, 3) := by decide +kernel
theorem dX0_put_27 : decode cX0_put 27 = .ok (.aload_n 0, 1) := by decide +kernel
theorem dX0_put_28 : decode cX0_put 28 = .ok (.dup, 1) := by decide +kernel
theorem dX0_put_29 : decode cX0_put 29 = .ok (.getfield 13, 3) := by decide +kernel
theorem dX0_put_32 : decode cX0_put 32 = .ok (.iconst 1, 1) := by decide +kernel
theorem dX0_put_33 : decode cX0_put 33 = .ok (.iadd, 1) := by decide +kernel
theorem dX0_put_34 : decode cX0_put 34 = .ok (.putfield 13, 3) := by decide +kernel
theorem dX0_put_37 : decode cX0_put 37 = .ok (.aload_n 0, 1) := by decide +kernel
theorem dX0_put_38 : decode cX0_put 38 = .ok (.getfield 13, 3) := by decide +kernel
theorem dX0_put_41 : decode cX0_put 41 = .ok (.bipush 8, 2) := by decide +kernel
theorem dX0_put_43 : decode cX0_put 43 = .ok (.if_icmp .ne 21, 3) := by decide +kernel
theorem dX0_put_46 : decode cX0_put 46 = .ok (.aload_n 3, 1) := by decide +kernel
theorem dX0_put_47 : decode cX0_put 47 = .ok (.aload_n 0, 1) := by decide +kernel
theorem dX0_put_48 : decode cX0_put 48 = .ok (.getfield 7, 3) := by decide +kernel
theorem dX0_put_51 : decode cX0_put 51 = .ok (.invokevirtual 16, 3) := by decide +kernel
theorem dX0_put_54 : decode cX0_put 54 = .ok (.aload_n 0, 1) := by decide +kernel
theorem dX0_put_55 : decode cX0_put 55 = .ok (.iconst 0, 1) := by decide +kernel
theorem dX0_put_56 : decode cX0_put 56 = .ok (.putfield 7, 3) := by decide +kernel
theorem dX0_put_59 : decode cX0_put 59 = .ok (.aload_n 0, 1) := by decide +kernel
theorem dX0_put_60 : decode cX0_put 60 = .ok (.iconst 0, 1) := by decide +kernel
theorem dX0_put_61 : decode cX0_put 61 = .ok (.putfield 13, 3) := by decide +kernel
theorem dX0_put_64 : decode cX0_put 64 = .ok (.iinc 4 (-1), 3) := by decide +kernel
theorem dX0_put_67 : decode cX0_put 67 = .ok (.goto (-62), 3) := by decide +kernel
theorem dX0_put_70 : decode cX0_put 70 = .ok (.return_, 1) := by decide +kernel
theorem dX0_finish_0 : decode cX0_finish 0 = .ok (.aload_n 0, 1) := by decide +kernel
theorem dX0_finish_1 : decode cX0_finish 1 = .ok (.getfield 13, 3) := by decide +kernel
theorem dX0_finish_4 : decode cX0_finish 4 = .ok (.ifCond .le 19, 3) := by decide +kernel
theorem dX0_finish_7 : decode cX0_finish 7 = .ok (.aload_n 1, 1) := by decide +kernel
theorem dX0_finish_8 : decode cX0_finish 8 = .ok (.aload_n 0, 1) := by decide +kernel
theorem dX0_finish_9 : decode cX0_finish 9 = .ok (.getfield 7, 3) := by decide +kernel
theorem dX0_finish_12 : decode cX0_finish 12 = .ok (.bipush 8, 2) := by decide +kernel
theorem dX0_finish_14 : decode cX0_finish 14 = .ok (.aload_n 0, 1) := by decide +kernel
theorem dX0_finish_15 : decode cX0_finish 15 = .ok (.getfield 13, 3) := by decide +kernel
theorem dX0_finish_18 : decode cX0_finish 18 = .ok (.isub, 1) := by decide +kernel
theorem dX0_finish_19 : decode cX0_finish 19 = .ok (.ishl, 1) := by decide +kernel
theorem dX0_finish_20 : decode cX0_finish 20 = .ok (.invokevirtual 16, 3) := by decide +kernel
theorem dX0_finish_23 : decode cX0_finish 23 = .ok (.aload_n 0, 1) := by decide +kernel
theorem dX0_finish_24 : decode cX0_finish 24 = .ok (.iconst 0, 1) := by decide +kernel
theorem dX0_finish_25 : decode cX0_finish 25 = .ok (.putfield 7, 3) := by decide +kernel
theorem dX0_finish_28 : decode cX0_finish 28 = .ok (.aload_n 0, 1) := by decide +kernel
theorem dX0_finish_29 : decode cX0_finish 29 = .ok (.iconst 0, 1) := by decide +kernel
theorem dX0_finish_30 : decode cX0_finish 30 = .ok (.putfield 13, 3) := by decide +kernel
theorem dX0_finish_33 : decode cX0_finish 33 = .ok (.return_, 1) := by decide +kernel
theorem dX1_init_0 : decode cX1_init 0 = .ok (.aload_n 0, 1) := by decide +kernel
theorem dX1_init_1 : decode cX1_init 1 = .ok (.invokespecial 3, 3) := by decide +kernel
theorem dX1_init_4 : decode cX1_init 4 = .ok (.aload_n 0, 1) := by decide +kernel
theorem dX1_init_5 : decode cX1_init 5 = .ok (.iconst 4, 1) := by decide +kernel
theorem dX1_init_6 : decode cX1_init 6 = .ok (.newarray .int, 2) := by decide +kernel
theorem dX1_init_8 : decode cX1_init 8 = .ok (.putfield 9, 3) := by decide +kernel
theorem dX1_init_11 : decode cX1_init 11 = .ok (.aload_n 0, 1) := by decide +kernel
theorem dX1_init_12 : decode cX1_init 12 = .ok (.iconst 4, 1) := by decide +kernel
theorem dX1_init_13 : decode cX1_init 13 = .ok (.newarray .int, 2) := by decide +kernel
theorem dX1_init_15 : decode cX1_init 15 = .ok (.putfield 15, 3) := by decide +kernel
theorem dX1_init_18 : decode cX1_init 18 = .ok (.aload_n 0, 1) := by decide +kernel
theorem dX1_init_19 : decode cX1_init 19 = .ok (.iconst 0, 1) := by decide +kernel
theorem dX1_init_20 : decode cX1_init 20 = .ok (.putfield 18, 3) := by decide +kernel
theorem dX1_init_23 : decode cX1_init 23 = .ok (.aload_n 0, 1) := by decide +kernel
theorem dX1_init_24 : decode cX1_init 24 = .ok (.iconst 5, 1) := by decide +kernel
theorem dX1_init_25 : decode cX1_init 25 = .ok (.newarray .int, 2) := by decide +kernel
theorem dX1_init_27 : decode cX1_init 27 = .ok (.putfield 22, 3) := by decide +kernel
theorem dX1_init_30 : decode cX1_init 30 = .ok (.aload_n 0, 1) := by decide +kernel
theorem dX1_init_31 : decode cX1_init 31 = .ok (.iconst 1, 1) := by decide +kernel
theorem dX1_init_32 : decode cX1_init 32 = .ok (.putfield 25, 3) := by decide +kernel
theorem dX1_init_35 : decode cX1_init 35 = .ok (.return_, 1) := by decide +kernel
theorem dX1_filterCount_0 : decode cX1_filterCount 0 = .ok (.aload_n 0, 1) := by decide +kernel
theorem dX1_filterCount_1 : decode cX1_filterCount 1 = .ok (.getfield 18, 3) := by decide +kernel
theorem dX1_filterCount_4 : decode cX1_filterCount 4 = .ok (.ireturn, 1) := by decide +kernel
theorem dX1_packerCount_0 : decode cX1_packerCount 0 = .ok (.aload_n 0, 1) := by decide +kernel
theorem dX1_packerCount_1 : decode cX1_packerCount 1 = .ok (.getfield 25, 3) := by decide +kernel
theorem dX1_packerCount_4 : decode cX1_packerCount 4 = .ok (.ireturn, 1) := by decide +kernel
theorem dX1_tellFilter_0 : decode cX1_tellFilter 0 = .ok (.aload_n 0, 1) := by decide +kernel
theorem dX1_tellFilter_1 : decode cX1_tellFilter 1 = .ok (.getfield 18, 3) := by decide +kernel
theorem dX1_tellFilter_4 : decode cX1_tellFilter 4 = .ok (.aload_n 0, 1) := by decide +kernel
theorem dX1_tellFilter_5 : decode cX1_tellFilter 5 = .ok (.getfield 9, 3) := by decide +kernel
theorem dX1_tellFilter_8 : decode cX1_tellFilter 8 = .ok (.arraylength, 1) := by decide +kernel
theorem dX1_tellFilter_9 : decode cX1_tellFilter 9 = .ok (.if_icmp .ge 33, 3) := by decide +kernel
theorem dX1_tellFilter_12 : decode cX1_tellFilter 12 = .ok (.aload_n 0, 1) := by decide +kernel
theorem dX1_tellFilter_13 : decode cX1_tellFilter 13 = .ok (.getfield 9, 3) := by decide +kernel
theorem dX1_tellFilter_16 : decode cX1_tellFilter 16 = .ok (.aload_n 0, 1) := by decide +kernel
theorem dX1_tellFilter_17 : decode cX1_tellFilter 17 = .ok (.getfield 18, 3) := by decide +kernel
theorem dX1_tellFilter_20 : decode cX1_tellFilter 20 = .ok (.iload_n 1, 1) := by decide +kernel
theorem dX1_tellFilter_21 : decode cX1_tellFilter 21 = .ok (.iastore, 1) := by decide +kernel
theorem dX1_tellFilter_22 : decode cX1_tellFilter 22 = .ok (.aload_n 0, 1) := by decide +kernel
theorem dX1_tellFilter_23 : decode cX1_tellFilter 23 = .ok (.getfield 15, 3) := by decide +kernel
theorem dX1_tellFilter_26 : decode cX1_tellFilter 26 = .ok (.aload_n 0, 1) := by decide +kernel
theorem dX1_tellFilter_27 : decode cX1_tellFilter 27 = .ok (.getfield 18, 3) := by decide +kernel
theorem dX1_tellFilter_30 : decode cX1_tellFilter 30 = .ok (.iload_n 2, 1) := by decide +kernel
theorem dX1_tellFilter_31 : decode cX1_tellFilter 31 = .ok (.iastore, 1) := by decide +kernel
theorem dX1_tellFilter_32 : decode cX1_tellFilter 32 = .ok (.aload_n 0, 1) := by decide +kernel
theorem dX1_tellFilter_33 : decode cX1_tellFilter 33 = .ok (.dup, 1) := by decide +kernel
theorem dX1_tellFilter_34 : decode cX1_tellFilter 34 = .ok (.getfield 18, 3) := by decide +kernel
theorem dX1_tellFilter_37 : decode cX1_tellFilter 37 = .ok (.iconst 1, 1) := by decide +kernel
theorem dX1_tellFilter_38 : decode cX1_tellFilter 38 = .ok (.iadd, 1) := by decide +kernel
theorem dX1_tellFilter_39 : decode cX1_tellFilter 39 = .ok (.putfield 18, 3) := by decide +kernel
theorem dX1_tellFilter_42 : decode cX1_tellFilter 42 = .ok (.return_, 1) := by decide +kernel
theorem dX1_tellPacker_0 : decode cX1_tellPacker 0 = .ok (.aload_n 0, 1) := by decide +kernel
theorem dX1_tellPacker_1 : decode cX1_tellPacker 1 = .ok (.getfield 25, 3) := by decide +kernel
theorem dX1_tellPacker_4 : decode cX1_tellPacker 4 = .ok (.aload_n 0, 1) := by decide +kernel
theorem dX1_tellPacker_5 : decode cX1_tellPacker 5 = .ok (.getfield 22, 3) := by decide +kernel
theorem dX1_tellPacker_8 : decode cX1_tellPacker 8 = .ok (.arraylength, 1) := by decide +kernel
theorem dX1_tellPacker_9 : decode cX1_tellPacker 9 = .ok (.if_icmp .ge 23, 3) := by decide +kernel
theorem dX1_tellPacker_12 : decode cX1_tellPacker 12 = .ok (.aload_n 0, 1) := by decide +kernel
theorem dX1_tellPacker_13 : decode cX1_tellPacker 13 = .ok (.getfield 22, 3) := by decide +kernel
theorem dX1_tellPacker_16 : decode cX1_tellPacker 16 = .ok (.aload_n 0, 1) := by decide +kernel
theorem dX1_tellPacker_17 : decode cX1_tellPacker 17 = .ok (.getfield 25, 3) := by decide +kernel
theorem dX1_tellPacker_20 : decode cX1_tellPacker 20 = .ok (.iload_n 1, 1) := by decide +kernel
theorem dX1_tellPacker_21 : decode cX1_tellPacker 21 = .ok (.iastore, 1) := by decide +kernel
theorem dX1_tellPacker_22 : decode cX1_tellPacker 22 = .ok (.aload_n 0, 1) := by decide +kernel
theorem dX1_tellPacker_23 : decode cX1_tellPacker 23 = .ok (.dup, 1) := by decide +kernel
theorem dX1_tellPacker_24 : decode cX1_tellPacker 24 = .ok (.getfield 25, 3) := by decide +kernel
theorem dX1_tellPacker_27 : decode cX1_tellPacker 27 = .ok (.iconst 1, 1) := by decide +kernel
theorem dX1_tellPacker_28 : decode cX1_tellPacker 28 = .ok (.iadd, 1) := by decide +kernel
theorem dX1_tellPacker_29 : decode cX1_tellPacker 29 = .ok (.putfield 25, 3) := by decide +kernel
theorem dX1_tellPacker_32 : decode cX1_tellPacker 32 = .ok (.return_, 1) := by decide +kernel
theorem dX1_tellNothing_0 : decode cX1_tellNothing 0 = .ok (.aload_n 0, 1) := by decide +kernel
theorem dX1_tellNothing_1 : decode cX1_tellNothing 1 = .ok (.iconst 0, 1) := by decide +kernel
theorem dX1_tellNothing_2 : decode cX1_tellNothing 2 = .ok (.putfield 18, 3) := by decide +kernel
theorem dX1_tellNothing_5 : decode cX1_tellNothing 5 = .ok (.aload_n 0, 1) := by decide +kernel
theorem dX1_tellNothing_6 : decode cX1_tellNothing 6 = .ok (.iconst 1, 1) := by decide +kernel
theorem dX1_tellNothing_7 : decode cX1_tellNothing 7 = .ok (.putfield 25, 3) := by decide +kernel
theorem dX1_tellNothing_10 : decode cX1_tellNothing 10 = .ok (.return_, 1) := by decide +kernel
theorem dX1_hasPacker_0 : decode cX1_hasPacker 0 = .ok (.iconst 0, 1) := by decide +kernel
theorem dX1_hasPacker_1 : decode cX1_hasPacker 1 = .ok (.istore_n 2, 1) := by decide +kernel
theorem dX1_hasPacker_2 : decode cX1_hasPacker 2 = .ok (.iload_n 2, 1) := by decide +kernel
theorem dX1_hasPacker_3 : decode cX1_hasPacker 3 = .ok (.aload_n 0, 1) := by decide +kernel
theorem dX1_hasPacker_4 : decode cX1_hasPacker 4 = .ok (.getfield 25, 3) := by decide +kernel
theorem dX1_hasPacker_7 : decode cX1_hasPacker 7 = .ok (.if_icmp .ge 21, 3) := by decide +kernel
theorem dX1_hasPacker_10 : decode cX1_hasPacker 10 = .ok (.aload_n 0, 1) := by decide +kernel
theorem dX1_hasPacker_11 : decode cX1_hasPacker 11 = .ok (.getfield 22, 3) := by decide +kernel
theorem dX1_hasPacker_14 : decode cX1_hasPacker 14 = .ok (.iload_n 2, 1) := by decide +kernel
theorem dX1_hasPacker_15 : decode cX1_hasPacker 15 = .ok (.iaload, 1) := by decide +kernel
theorem dX1_hasPacker_16 : decode cX1_hasPacker 16 = .ok (.iload_n 1, 1) := by decide +kernel
theorem dX1_hasPacker_17 : decode cX1_hasPacker 17 = .ok (.if_icmp .ne 5, 3) := by decide +kernel
theorem dX1_hasPacker_20 : decode cX1_hasPacker 20 = .ok (.iconst 1, 1) := by decide +kernel
theorem dX1_hasPacker_21 : decode cX1_hasPacker 21 = .ok (.ireturn, 1) := by decide +kernel
theorem dX1_hasPacker_22 : decode cX1_hasPacker 22 = .ok (.iinc 2 1, 3) := by decide +kernel
theorem dX1_hasPacker_25 : decode cX1_hasPacker 25 = .ok (.goto (-23), 3) := by decide +kernel
theorem dX1_hasPacker_28 : decode cX1_hasPacker 28 = .ok (.iconst 0, 1) := by decide +kernel
theorem dX1_hasPacker_29 : decode cX1_hasPacker 29 = .ok (.ireturn, 1) := by decide +kernel
theorem dX1_many_0 : decode cX1_many 0 = .ok (.aload_n 0, 1) := by decide +kernel
theorem dX1_many_1 : decode cX1_many 1 = .ok (.getfield 18, 3) := by decide +kernel
theorem dX1_many_4 : decode cX1_many 4 = .ok (.aload_n 0, 1) := by decide +kernel
theorem dX1_many_5 : decode cX1_many 5 = .ok (.getfield 18, 3) := by decide +kernel
theorem dX1_many_8 : decode cX1_many 8 = .ok (.iconst 1, 1) := by decide +kernel
theorem dX1_many_9 : decode cX1_many 9 = .ok (.isub, 1) := by decide +kernel
theorem dX1_many_10 : decode cX1_many 10 = .ok (.imul, 1) := by decide +kernel
theorem dX1_many_11 : decode cX1_many 11 = .ok (.istore_n 1, 1) := by decide +kernel
theorem dX1_many_12 : decode cX1_many 12 = .ok (.iconst 1, 1) := by decide +kernel
theorem dX1_many_13 : decode cX1_many 13 = .ok (.aload_n 0, 1) := by decide +kernel
theorem dX1_many_14 : decode cX1_many 14 = .ok (.getfield 18, 3) := by decide +kernel
theorem dX1_many_17 : decode cX1_many 17 = .ok (.iadd, 1) := by decide +kernel
theorem dX1_many_18 : decode cX1_many 18 = .ok (.iload_n 1, 1) := by decide +kernel
theorem dX1_many_19 : decode cX1_many 19 = .ok (.iadd, 1) := by decide +kernel
theorem dX1_many_20 : decode cX1_many 20 = .ok (.aload_n 0, 1) := by decide +kernel
theorem dX1_many_21 : decode cX1_many 21 = .ok (.getfield 25, 3) := by decide +kernel
theorem dX1_many_24 : decode cX1_many 24 = .ok (.imul, 1) := by decide +kernel
theorem dX1_many_25 : decode cX1_many 25 = .ok (.ireturn, 1) := by decide +kernel
theorem dX1_has_0 : decode cX1_has 0 = .ok (.iload_n 1, 1) := by decide +kernel
theorem dX1_has_1 : decode cX1_has 1 = .ok (.ifCond .lt 15, 3) := by decide +kernel
theorem dX1_has_4 : decode cX1_has 4 = .ok (.iload_n 1, 1) := by decide +kernel
theorem dX1_has_5 : decode cX1_has 5 = .ok (.aload_n 0, 1) := by decide +kernel
theorem dX1_has_6 : decode cX1_has 6 = .ok (.invokevirtual 28, 3) := by decide +kernel
theorem dX1_has_9 : decode cX1_has 9 = .ok (.if_icmp .ge 7, 3) := by decide +kernel
theorem dX1_has_12 : decode cX1_has 12 = .ok (.iconst 1, 1) := by decide +kernel
theorem dX1_has_13 : decode cX1_has 13 = .ok (.goto 4, 3) := by decide +kernel
theorem dX1_has_16 : decode cX1_has 16 = .ok (.iconst 0, 1) := by decide +kernel
theorem dX1_has_17 : decode cX1_has 17 = .ok (.ireturn, 1) := by decide +kernel
theorem dX1_groupOf_0 : decode cX1_groupOf 0 = .ok (.aload_n 0, 1) := by decide +kernel
theorem dX1_groupOf_1 : decode cX1_groupOf 1 = .ok (.getfield 25, 3) := by decide +kernel
theorem dX1_groupOf_4 : decode cX1_groupOf 4 = .ok (.ifCond .le 12, 3) := by decide +kernel
theorem dX1_groupOf_7 : decode cX1_groupOf 7 = .ok (.iload_n 1, 1) := by decide +kernel
theorem dX1_groupOf_8 : decode cX1_groupOf 8 = .ok (.aload_n 0, 1) := by decide +kernel
theorem dX1_groupOf_9 : decode cX1_groupOf 9 = .ok (.getfield 25, 3) := by decide +kernel
theorem dX1_groupOf_12 : decode cX1_groupOf 12 = .ok (.idiv, 1) := by decide +kernel
theorem dX1_groupOf_13 : decode cX1_groupOf 13 = .ok (.goto 4, 3) := by decide +kernel
theorem dX1_groupOf_16 : decode cX1_groupOf 16 = .ok (.iconst 0, 1) := by decide +kernel
theorem dX1_groupOf_17 : decode cX1_groupOf 17 = .ok (.ireturn, 1) := by decide +kernel
theorem dX1_packerOf_0 : decode cX1_packerOf 0 = .ok (.aload_n 0, 1) := by decide +kernel
theorem dX1_packerOf_1 : decode cX1_packerOf 1 = .ok (.iload_n 1, 1) := by decide +kernel
theorem dX1_packerOf_2 : decode cX1_packerOf 2 = .ok (.invokevirtual 32, 3) := by decide +kernel
theorem dX1_packerOf_5 : decode cX1_packerOf 5 = .ok (.ifCond .eq 10, 3) := by decide +kernel
theorem dX1_packerOf_8 : decode cX1_packerOf 8 = .ok (.aload_n 0, 1) := by decide +kernel
theorem dX1_packerOf_9 : decode cX1_packerOf 9 = .ok (.getfield 25, 3) := by decide +kernel
theorem dX1_packerOf_12 : decode cX1_packerOf 12 = .ok (.ifCond .gt 5, 3) := by decide +kernel
theorem dX1_packerOf_15 : decode cX1_packerOf 15 = .ok (.iconst 0, 1) := by decide +kernel
theorem dX1_packerOf_16 : decode cX1_packerOf 16 = .ok (.ireturn, 1) := by decide +kernel
theorem dX1_packerOf_17 : decode cX1_packerOf 17 = .ok (.aload_n 0, 1) := by decide +kernel
theorem dX1_packerOf_18 : decode cX1_packerOf 18 = .ok (.getfield 22, 3) := by decide +kernel
theorem dX1_packerOf_21 : decode cX1_packerOf 21 = .ok (.iload_n 1, 1) := by decide +kernel
theorem dX1_packerOf_22 : decode cX1_packerOf 22 = .ok (.aload_n 0, 1) := by decide +kernel
theorem dX1_packerOf_23 : decode cX1_packerOf 23 = .ok (.getfield 25, 3) := by decide +kernel
theorem dX1_packerOf_26 : decode cX1_packerOf 26 = .ok (.irem, 1) := by decide +kernel
theorem dX1_packerOf_27 : decode cX1_packerOf 27 = .ok (.iaload, 1) := by decide +kernel
theorem dX1_packerOf_28 : decode cX1_packerOf 28 = .ok (.ireturn, 1) := by decide +kernel
theorem dX1_filterOf_0 : decode cX1_filterOf 0 = .ok (.aload_n 0, 1) := by decide +kernel
theorem dX1_filterOf_1 : decode cX1_filterOf 1 = .ok (.iload_n 1, 1) := by decide +kernel
theorem dX1_filterOf_2 : decode cX1_filterOf 2 = .ok (.invokevirtual 36, 3) := by decide +kernel
theorem dX1_filterOf_5 : decode cX1_filterOf 5 = .ok (.istore_n 3, 1) := by decide +kernel
theorem dX1_filterOf_6 : decode cX1_filterOf 6 = .ok (.iload_n 3, 1) := by decide +kernel
theorem dX1_filterOf_7 : decode cX1_filterOf 7 = .ok (.aload_n 0, 1) := by decide +kernel
theorem dX1_filterOf_8 : decode cX1_filterOf 8 = .ok (.getfield 18, 3) := by decide +kernel
theorem dX1_filterOf_11 : decode cX1_filterOf 11 = .ok (.if_icmp .gt 20, 3) := by decide +kernel
theorem dX1_filterOf_14 : decode cX1_filterOf 14 = .ok (.iload_n 2, 1) := by decide +kernel
theorem dX1_filterOf_15 : decode cX1_filterOf 15 = .ok (.ifCond .ne 13, 3) := by decide +kernel
theorem dX1_filterOf_18 : decode cX1_filterOf 18 = .ok (.iload_n 3, 1) := by decide +kernel
theorem dX1_filterOf_19 : decode cX1_filterOf 19 = .ok (.ifCond .le 9, 3) := by decide +kernel
theorem dX1_filterOf_22 : decode cX1_filterOf 22 = .ok (.iload_n 3, 1) := by decide +kernel
theorem dX1_filterOf_23 : decode cX1_filterOf 23 = .ok (.iconst 1, 1) := by decide +kernel
theorem dX1_filterOf_24 : decode cX1_filterOf 24 = .ok (.isub, 1) := by decide +kernel
theorem dX1_filterOf_25 : decode cX1_filterOf 25 = .ok (.goto 5, 3) := by decide +kernel
theorem dX1_filterOf_28 : decode cX1_filterOf 28 = .ok (.bipush (-3), 2) := by decide +kernel
theorem dX1_filterOf_30 : decode cX1_filterOf 30 = .ok (.ireturn, 1) := by decide +kernel
theorem dX1_filterOf_31 : decode cX1_filterOf 31 = .ok (.iload_n 3, 1) := by decide +kernel
theorem dX1_filterOf_32 : decode cX1_filterOf 32 = .ok (.iconst 1, 1) := by decide +kernel
theorem dX1_filterOf_33 : decode cX1_filterOf 33 = .ok (.isub, 1) := by decide +kernel
theorem dX1_filterOf_34 : decode cX1_filterOf 34 = .ok (.aload_n 0, 1) := by decide +kernel
theorem dX1_filterOf_35 : decode cX1_filterOf 35 = .ok (.getfield 18, 3) := by decide +kernel
theorem dX1_filterOf_38 : decode cX1_filterOf 38 = .ok (.isub, 1) := by decide +kernel
theorem dX1_filterOf_39 : decode cX1_filterOf 39 = .ok (.istore 4, 2) := by decide +kernel
theorem dX1_filterOf_41 : decode cX1_filterOf 41 = .ok (.aload_n 0, 1) := by decide +kernel
theorem dX1_filterOf_42 : decode cX1_filterOf 42 = .ok (.getfield 18, 3) := by decide +kernel
theorem dX1_filterOf_45 : decode cX1_filterOf 45 = .ok (.iconst 1, 1) := by decide +kernel
theorem dX1_filterOf_46 : decode cX1_filterOf 46 = .ok (.isub, 1) := by decide +kernel
theorem dX1_filterOf_47 : decode cX1_filterOf 47 = .ok (.istore 5, 2) := by decide +kernel
theorem dX1_filterOf_49 : decode cX1_filterOf 49 = .ok (.iload 5, 2) := by decide +kernel
theorem dX1_filterOf_51 : decode cX1_filterOf 51 = .ok (.iconst 1, 1) := by decide +kernel
theorem dX1_filterOf_52 : decode cX1_filterOf 52 = .ok (.if_icmp .ge 6, 3) := by decide +kernel
theorem dX1_filterOf_55 : decode cX1_filterOf 55 = .ok (.bipush (-3), 2) := by decide +kernel
theorem dX1_filterOf_57 : decode cX1_filterOf 57 = .ok (.ireturn, 1) := by decide +kernel
theorem dX1_filterOf_58 : decode cX1_filterOf 58 = .ok (.iload 4, 2) := by decide +kernel
theorem dX1_filterOf_60 : decode cX1_filterOf 60 = .ok (.iload 5, 2) := by decide +kernel
theorem dX1_filterOf_62 : decode cX1_filterOf 62 = .ok (.idiv, 1) := by decide +kernel
theorem dX1_filterOf_63 : decode cX1_filterOf 63 = .ok (.istore 6, 2) := by decide +kernel
theorem dX1_filterOf_65 : decode cX1_filterOf 65 = .ok (.iload_n 2, 1) := by decide +kernel
theorem dX1_filterOf_66 : decode cX1_filterOf 66 = .ok (.ifCond .ne 6, 3) := by decide +kernel
theorem dX1_filterOf_69 : decode cX1_filterOf 69 = .ok (.iload 6, 2) := by decide +kernel
theorem dX1_filterOf_71 : decode cX1_filterOf 71 = .ok (.ireturn, 1) := by decide +kernel
theorem dX1_filterOf_72 : decode cX1_filterOf 72 = .ok (.iload 4, 2) := by decide +kernel
theorem dX1_filterOf_74 : decode cX1_filterOf 74 = .ok (.iload 5, 2) := by decide +kernel
theorem dX1_filterOf_76 : decode cX1_filterOf 76 = .ok (.irem, 1) := by decide +kernel
theorem dX1_filterOf_77 : decode cX1_filterOf 77 = .ok (.istore 7, 2) := by decide +kernel
theorem dX1_filterOf_79 : decode cX1_filterOf 79 = .ok (.iload 7, 2) := by decide +kernel
theorem dX1_filterOf_81 : decode cX1_filterOf 81 = .ok (.iload 6, 2) := by decide +kernel
theorem dX1_filterOf_83 : decode cX1_filterOf 83 = .ok (.if_icmp .ge 8, 3) := by decide +kernel
theorem dX1_filterOf_86 : decode cX1_filterOf 86 = .ok (.iload 7, 2) := by decide +kernel
theorem dX1_filterOf_88 : decode cX1_filterOf 88 = .ok (.goto 7, 3) := by decide +kernel
theorem dX1_filterOf_91 : decode cX1_filterOf 91 = .ok (.iload 7, 2) := by decide +kernel
theorem dX1_filterOf_93 : decode cX1_filterOf 93 = .ok (.iconst 1, 1) := by decide +kernel
theorem dX1_filterOf_94 : decode cX1_filterOf 94 = .ok (.iadd, 1) := by decide +kernel
theorem dX1_filterOf_95 : decode cX1_filterOf 95 = .ok (.ireturn, 1) := by decide +kernel
theorem dX1_filtersIn_0 : decode cX1_filtersIn 0 = .ok (.aload_n 0, 1) := by decide +kernel
theorem dX1_filtersIn_1 : decode cX1_filtersIn 1 = .ok (.iload_n 1, 1) := by decide +kernel
theorem dX1_filtersIn_2 : decode cX1_filtersIn 2 = .ok (.iconst 0, 1) := by decide +kernel
theorem dX1_filtersIn_3 : decode cX1_filtersIn 3 = .ok (.invokevirtual 40, 3) := by decide +kernel
theorem dX1_filtersIn_6 : decode cX1_filtersIn 6 = .ok (.bipush (-3), 2) := by decide +kernel
theorem dX1_filtersIn_8 : decode cX1_filtersIn 8 = .ok (.if_icmp .ne 5, 3) := by decide +kernel
theorem dX1_filtersIn_11 : decode cX1_filtersIn 11 = .ok (.iconst 0, 1) := by decide +kernel
theorem dX1_filtersIn_12 : decode cX1_filtersIn 12 = .ok (.ireturn, 1) := by decide +kernel
theorem dX1_filtersIn_13 : decode cX1_filtersIn 13 = .ok (.aload_n 0, 1) := by decide +kernel
theorem dX1_filtersIn_14 : decode cX1_filtersIn 14 = .ok (.iload_n 1, 1) := by decide +kernel
theorem dX1_filtersIn_15 : decode cX1_filtersIn 15 = .ok (.iconst 1, 1) := by decide +kernel
theorem dX1_filtersIn_16 : decode cX1_filtersIn 16 = .ok (.invokevirtual 40, 3) := by decide +kernel
theorem dX1_filtersIn_19 : decode cX1_filtersIn 19 = .ok (.bipush (-3), 2) := by decide +kernel
theorem dX1_filtersIn_21 : decode cX1_filtersIn 21 = .ok (.if_icmp .ne 7, 3) := by decide +kernel
theorem dX1_filtersIn_24 : decode cX1_filtersIn 24 = .ok (.iconst 1, 1) := by decide +kernel
theorem dX1_filtersIn_25 : decode cX1_filtersIn 25 = .ok (.goto 4, 3) := by decide +kernel
theorem dX1_filtersIn_28 : decode cX1_filtersIn 28 = .ok (.iconst 2, 1) := by decide +kernel
theorem dX1_filtersIn_29 : decode cX1_filtersIn 29 = .ok (.ireturn, 1) := by decide +kernel
theorem dX1_kindOf_0 : decode cX1_kindOf 0 = .ok (.iload_n 1, 1) := by decide +kernel
theorem dX1_kindOf_1 : decode cX1_kindOf 1 = .ok (.ifCond .lt 21, 3) := by decide +kernel
theorem dX1_kindOf_4 : decode cX1_kindOf 4 = .ok (.iload_n 1, 1) := by decide +kernel
theorem dX1_kindOf_5 : decode cX1_kindOf 5 = .ok (.aload_n 0, 1) := by decide +kernel
theorem dX1_kindOf_6 : decode cX1_kindOf 6 = .ok (.getfield 9, 3) := by decide +kernel
theorem dX1_kindOf_9 : decode cX1_kindOf 9 = .ok (.arraylength, 1) := by decide +kernel
theorem dX1_kindOf_10 : decode cX1_kindOf 10 = .ok (.if_icmp .ge 12, 3) := by decide +kernel
theorem dX1_kindOf_13 : decode cX1_kindOf 13 = .ok (.aload_n 0, 1) := by decide +kernel
theorem dX1_kindOf_14 : decode cX1_kindOf 14 = .ok (.getfield 9, 3) := by decide +kernel
theorem dX1_kindOf_17 : decode cX1_kindOf 17 = .ok (.iload_n 1, 1) := by decide +kernel
theorem dX1_kindOf_18 : decode cX1_kindOf 18 = .ok (.iaload, 1) := by decide +kernel
theorem dX1_kindOf_19 : decode cX1_kindOf 19 = .ok (.goto 4, 3) := by decide +kernel
theorem dX1_kindOf_22 : decode cX1_kindOf 22 = .ok (.iconst 0, 1) := by decide +kernel
theorem dX1_kindOf_23 : decode cX1_kindOf 23 = .ok (.ireturn, 1) := by decide +kernel
theorem dX1_valueOf_0 : decode cX1_valueOf 0 = .ok (.iload_n 1, 1) := by decide +kernel
theorem dX1_valueOf_1 : decode cX1_valueOf 1 = .ok (.ifCond .lt 21, 3) := by decide +kernel
theorem dX1_valueOf_4 : decode cX1_valueOf 4 = .ok (.iload_n 1, 1) := by decide +kernel
theorem dX1_valueOf_5 : decode cX1_valueOf 5 = .ok (.aload_n 0, 1) := by decide +kernel
theorem dX1_valueOf_6 : decode cX1_valueOf 6 = .ok (.getfield 15, 3) := by decide +kernel
theorem dX1_valueOf_9 : decode cX1_valueOf 9 = .ok (.arraylength, 1) := by decide +kernel
theorem dX1_valueOf_10 : decode cX1_valueOf 10 = .ok (.if_icmp .ge 12, 3) := by decide +kernel
theorem dX1_valueOf_13 : decode cX1_valueOf 13 = .ok (.aload_n 0, 1) := by decide +kernel
theorem dX1_valueOf_14 : decode cX1_valueOf 14 = .ok (.getfield 15, 3) := by decide +kernel
theorem dX1_valueOf_17 : decode cX1_valueOf 17 = .ok (.iload_n 1, 1) := by decide +kernel
theorem dX1_valueOf_18 : decode cX1_valueOf 18 = .ok (.iaload, 1) := by decide +kernel
theorem dX1_valueOf_19 : decode cX1_valueOf 19 = .ok (.goto 4, 3) := by decide +kernel
theorem dX1_valueOf_22 : decode cX1_valueOf 22 = .ok (.iconst 0, 1) := by decide +kernel
theorem dX1_valueOf_23 : decode cX1_valueOf 23 = .ok (.ireturn, 1) := by decide +kernel
theorem dX1_stepsOf_0 : decode cX1_stepsOf 0 = .ok (.getstatic 44, 3) := by decide +kernel
theorem dX1_stepsOf_3 : decode cX1_stepsOf 3 = .ok (.aload_n 0, 1) := by decide +kernel
theorem dX1_stepsOf_4 : decode cX1_stepsOf 4 = .ok (.iload_n 1, 1) := by decide +kernel
theorem dX1_stepsOf_5 : decode cX1_stepsOf 5 = .ok (.invokevirtual 47, 3) := by decide +kernel
theorem dX1_stepsOf_8 : decode cX1_stepsOf 8 = .ok (.invokestatic 50, 3) := by decide +kernel
theorem dX1_stepsOf_11 : decode cX1_stepsOf 11 = .ok (.istore_n 2, 1) := by decide +kernel
theorem dX1_stepsOf_12 : decode cX1_stepsOf 12 = .ok (.iconst 0, 1) := by decide +kernel
theorem dX1_stepsOf_13 : decode cX1_stepsOf 13 = .ok (.istore_n 3, 1) := by decide +kernel
theorem dX1_stepsOf_14 : decode cX1_stepsOf 14 = .ok (.iload_n 3, 1) := by decide +kernel
theorem dX1_stepsOf_15 : decode cX1_stepsOf 15 = .ok (.aload_n 0, 1) := by decide +kernel
theorem dX1_stepsOf_16 : decode cX1_stepsOf 16 = .ok (.iload_n 1, 1) := by decide +kernel
theorem dX1_stepsOf_17 : decode cX1_stepsOf 17 = .ok (.invokevirtual 54, 3) := by decide +kernel
theorem dX1_stepsOf_20 : decode cX1_stepsOf 20 = .ok (.if_icmp .ge 28, 3) := by decide +kernel
theorem dX1_stepsOf_23 : decode cX1_stepsOf 23 = .ok (.iload_n 2, 1) := by decide +kernel
theorem dX1_stepsOf_24 : decode cX1_stepsOf 24 = .ok (.getstatic 57, 3) := by decide +kernel
theorem dX1_stepsOf_27 : decode cX1_stepsOf 27 = .ok (.aload_n 0, 1) := by decide +kernel
theorem dX1_stepsOf_28 : decode cX1_stepsOf 28 = .ok (.aload_n 0, 1) := by decide +kernel
theorem dX1_stepsOf_29 : decode cX1_stepsOf 29 = .ok (.iload_n 1, 1) := by decide +kernel
theorem dX1_stepsOf_30 : decode cX1_stepsOf 30 = .ok (.iload_n 3, 1) := by decide +kernel
theorem dX1_stepsOf_31 : decode cX1_stepsOf 31 = .ok (.invokevirtual 40, 3) := by decide +kernel
theorem dX1_stepsOf_34 : decode cX1_stepsOf 34 = .ok (.invokevirtual 60, 3) := by decide +kernel
theorem dX1_stepsOf_37 : decode cX1_stepsOf 37 = .ok (.invokestatic 50, 3) := by decide +kernel
theorem dX1_stepsOf_40 : decode cX1_stepsOf 40 = .ok (.iadd, 1) := by decide +kernel
theorem dX1_stepsOf_41 : decode cX1_stepsOf 41 = .ok (.istore_n 2, 1) := by decide +kernel
theorem dX1_stepsOf_42 : decode cX1_stepsOf 42 = .ok (.iinc 3 1, 3) := by decide +kernel
theorem dX1_stepsOf_45 : decode cX1_stepsOf 45 = .ok (.goto (-31), 3) := by decide +kernel
theorem dX1_stepsOf_48 : decode cX1_stepsOf 48 = .ok (.iload_n 2, 1) := by decide +kernel
theorem dX1_stepsOf_49 : decode cX1_stepsOf 49 = .ok (.ireturn, 1) := by decide +kernel
theorem dX1_memoryOf_0 : decode cX1_memoryOf 0 = .ok (.getstatic 63, 3) := by decide +kernel
theorem dX1_memoryOf_3 : decode cX1_memoryOf 3 = .ok (.aload_n 0, 1) := by decide +kernel
theorem dX1_memoryOf_4 : decode cX1_memoryOf 4 = .ok (.iload_n 1, 1) := by decide +kernel
theorem dX1_memoryOf_5 : decode cX1_memoryOf 5 = .ok (.invokevirtual 47, 3) := by decide +kernel
theorem dX1_memoryOf_8 : decode cX1_memoryOf 8 = .ok (.invokestatic 50, 3) := by decide +kernel
theorem dX1_memoryOf_11 : decode cX1_memoryOf 11 = .ok (.istore_n 2, 1) := by decide +kernel
theorem dX1_memoryOf_12 : decode cX1_memoryOf 12 = .ok (.iconst 0, 1) := by decide +kernel
theorem dX1_memoryOf_13 : decode cX1_memoryOf 13 = .ok (.istore_n 3, 1) := by decide +kernel
theorem dX1_memoryOf_14 : decode cX1_memoryOf 14 = .ok (.iload_n 3, 1) := by decide +kernel
theorem dX1_memoryOf_15 : decode cX1_memoryOf 15 = .ok (.aload_n 0, 1) := by decide +kernel
theorem dX1_memoryOf_16 : decode cX1_memoryOf 16 = .ok (.iload_n 1, 1) := by decide +kernel
theorem dX1_memoryOf_17 : decode cX1_memoryOf 17 = .ok (.invokevirtual 54, 3) := by decide +kernel
theorem dX1_memoryOf_20 : decode cX1_memoryOf 20 = .ok (.if_icmp .ge 30, 3) := by decide +kernel
theorem dX1_memoryOf_23 : decode cX1_memoryOf 23 = .ok (.iload_n 2, 1) := by decide +kernel
theorem dX1_memoryOf_24 : decode cX1_memoryOf 24 = .ok (.getstatic 66, 3) := by decide +kernel
theorem dX1_memoryOf_27 : decode cX1_memoryOf 27 = .ok (.aload_n 0, 1) := by decide +kernel
theorem dX1_memoryOf_28 : decode cX1_memoryOf 28 = .ok (.aload_n 0, 1) := by decide +kernel
theorem dX1_memoryOf_29 : decode cX1_memoryOf 29 = .ok (.iload_n 1, 1) := by decide +kernel
theorem dX1_memoryOf_30 : decode cX1_memoryOf 30 = .ok (.iload_n 3, 1) := by decide +kernel
theorem dX1_memoryOf_31 : decode cX1_memoryOf 31 = .ok (.invokevirtual 40, 3) := by decide +kernel
theorem dX1_memoryOf_34 : decode cX1_memoryOf 34 = .ok (.invokevirtual 60, 3) := by decide +kernel
theorem dX1_memoryOf_37 : decode cX1_memoryOf 37 = .ok (.invokestatic 50, 3) := by decide +kernel
theorem dX1_memoryOf_40 : decode cX1_memoryOf 40 = .ok (.invokestatic 69, 3) := by decide +kernel
theorem dX1_memoryOf_43 : decode cX1_memoryOf 43 = .ok (.istore_n 2, 1) := by decide +kernel
theorem dX1_memoryOf_44 : decode cX1_memoryOf 44 = .ok (.iinc 3 1, 3) := by decide +kernel
theorem dX1_memoryOf_47 : decode cX1_memoryOf 47 = .ok (.goto (-33), 3) := by decide +kernel
theorem dX1_memoryOf_50 : decode cX1_memoryOf 50 = .ok (.iload_n 2, 1) := by decide +kernel
theorem dX1_memoryOf_51 : decode cX1_memoryOf 51 = .ok (.ireturn, 1) := by decide +kernel
theorem dX1_valueIn_0 : decode cX1_valueIn 0 = .ok (.iload_n 1, 1) := by decide +kernel
theorem dX1_valueIn_1 : decode cX1_valueIn 1 = .ok (.ifCond .lt 15, 3) := by decide +kernel
theorem dX1_valueIn_4 : decode cX1_valueIn 4 = .ok (.iload_n 1, 1) := by decide +kernel
theorem dX1_valueIn_5 : decode cX1_valueIn 5 = .ok (.aload_n 0, 1) := by decide +kernel
theorem dX1_valueIn_6 : decode cX1_valueIn 6 = .ok (.arraylength, 1) := by decide +kernel
theorem dX1_valueIn_7 : decode cX1_valueIn 7 = .ok (.if_icmp .ge 9, 3) := by decide +kernel
theorem dX1_valueIn_10 : decode cX1_valueIn 10 = .ok (.aload_n 0, 1) := by decide +kernel
theorem dX1_valueIn_11 : decode cX1_valueIn 11 = .ok (.iload_n 1, 1) := by decide +kernel
theorem dX1_valueIn_12 : decode cX1_valueIn 12 = .ok (.iaload, 1) := by decide +kernel
theorem dX1_valueIn_13 : decode cX1_valueIn 13 = .ok (.goto 4, 3) := by decide +kernel
theorem dX1_valueIn_16 : decode cX1_valueIn 16 = .ok (.iconst 0, 1) := by decide +kernel
theorem dX1_valueIn_17 : decode cX1_valueIn 17 = .ok (.ireturn, 1) := by decide +kernel
theorem dX2_init_0 : decode cX2_init 0 = .ok (.aload_n 0, 1) := by decide +kernel
theorem dX2_init_1 : decode cX2_init 1 = .ok (.invokespecial 3, 3) := by decide +kernel
theorem dX2_init_4 : decode cX2_init 4 = .ok (.aload_n 0, 1) := by decide +kernel
theorem dX2_init_5 : decode cX2_init 5 = .ok (.sipush 256, 3) := by decide +kernel
theorem dX2_init_8 : decode cX2_init 8 = .ok (.newarray .int, 2) := by decide +kernel
theorem dX2_init_10 : decode cX2_init 10 = .ok (.putfield 9, 3) := by decide +kernel
theorem dX2_init_13 : decode cX2_init 13 = .ok (.return_, 1) := by decide +kernel
theorem dX2_isKind_0 : decode cX2_isKind 0 = .ok (.iload_n 0, 1) := by decide +kernel
theorem dX2_isKind_1 : decode cX2_isKind 1 = .ok (.iconst 1, 1) := by decide +kernel
theorem dX2_isKind_2 : decode cX2_isKind 2 = .ok (.if_icmp .lt 12, 3) := by decide +kernel
theorem dX2_isKind_5 : decode cX2_isKind 5 = .ok (.iload_n 0, 1) := by decide +kernel
theorem dX2_isKind_6 : decode cX2_isKind 6 = .ok (.iconst 4, 1) := by decide +kernel
theorem dX2_isKind_7 : decode cX2_isKind 7 = .ok (.if_icmp .gt 7, 3) := by decide +kernel
theorem dX2_isKind_10 : decode cX2_isKind 10 = .ok (.iconst 1, 1) := by decide +kernel
theorem dX2_isKind_11 : decode cX2_isKind 11 = .ok (.goto 4, 3) := by decide +kernel
theorem dX2_isKind_14 : decode cX2_isKind 14 = .ok (.iconst 0, 1) := by decide +kernel
theorem dX2_isKind_15 : decode cX2_isKind 15 = .ok (.ireturn, 1) := by decide +kernel
theorem dX2_takes_0 : decode cX2_takes 0 = .ok (.iload_n 0, 1) := by decide +kernel
theorem dX2_takes_1 : decode cX2_takes 1 = .ok (.tableswitch 93 1 4 #[31, 48, 58, 75], 31) := by decide +kernel
theorem dX2_takes_32 : decode cX2_takes 32 = .ok (.iload_n 1, 1) := by decide +kernel
theorem dX2_takes_33 : decode cX2_takes 33 = .ok (.iconst 1, 1) := by decide +kernel
theorem dX2_takes_34 : decode cX2_takes 34 = .ok (.if_icmp .lt 13, 3) := by decide +kernel
theorem dX2_takes_37 : decode cX2_takes 37 = .ok (.iload_n 1, 1) := by decide +kernel
theorem dX2_takes_38 : decode cX2_takes 38 = .ok (.bipush 8, 2) := by decide +kernel
theorem dX2_takes_40 : decode cX2_takes 40 = .ok (.if_icmp .gt 7, 3) := by decide +kernel
theorem dX2_takes_43 : decode cX2_takes 43 = .ok (.iconst 1, 1) := by decide +kernel
theorem dX2_takes_44 : decode cX2_takes 44 = .ok (.goto 4, 3) := by decide +kernel
theorem dX2_takes_47 : decode cX2_takes 47 = .ok (.iconst 0, 1) := by decide +kernel
theorem dX2_takes_48 : decode cX2_takes 48 = .ok (.ireturn, 1) := by decide +kernel
theorem dX2_takes_49 : decode cX2_takes 49 = .ok (.iload_n 1, 1) := by decide +kernel
theorem dX2_takes_50 : decode cX2_takes 50 = .ok (.ifCond .ne 7, 3) := by decide +kernel
theorem dX2_takes_53 : decode cX2_takes 53 = .ok (.iconst 1, 1) := by decide +kernel
theorem dX2_takes_54 : decode cX2_takes 54 = .ok (.goto 4, 3) := by decide +kernel
theorem dX2_takes_57 : decode cX2_takes 57 = .ok (.iconst 0, 1) := by decide +kernel
theorem dX2_takes_58 : decode cX2_takes 58 = .ok (.ireturn, 1) := by decide +kernel
theorem dX2_takes_59 : decode cX2_takes 59 = .ok (.iload_n 1, 1) := by decide +kernel
theorem dX2_takes_60 : decode cX2_takes 60 = .ok (.iconst 2, 1) := by decide +kernel
theorem dX2_takes_61 : decode cX2_takes 61 = .ok (.if_icmp .lt 13, 3) := by decide +kernel
theorem dX2_takes_64 : decode cX2_takes 64 = .ok (.iload_n 1, 1) := by decide +kernel
theorem dX2_takes_65 : decode cX2_takes 65 = .ok (.bipush 8, 2) := by decide +kernel
theorem dX2_takes_67 : decode cX2_takes 67 = .ok (.if_icmp .gt 7, 3) := by decide +kernel
theorem dX2_takes_70 : decode cX2_takes 70 = .ok (.iconst 1, 1) := by decide +kernel
theorem dX2_takes_71 : decode cX2_takes 71 = .ok (.goto 4, 3) := by decide +kernel
theorem dX2_takes_74 : decode cX2_takes 74 = .ok (.iconst 0, 1) := by decide +kernel
theorem dX2_takes_75 : decode cX2_takes 75 = .ok (.ireturn, 1) := by decide +kernel
theorem dX2_takes_76 : decode cX2_takes 76 = .ok (.iload_n 1, 1) := by decide +kernel
theorem dX2_takes_77 : decode cX2_takes 77 = .ok (.iconst 1, 1) := by decide +kernel
theorem dX2_takes_78 : decode cX2_takes 78 = .ok (.if_icmp .lt 14, 3) := by decide +kernel
theorem dX2_takes_81 : decode cX2_takes 81 = .ok (.iload_n 1, 1) := by decide +kernel
theorem dX2_takes_82 : decode cX2_takes 82 = .ok (.sipush 255, 3) := by decide +kernel
theorem dX2_takes_85 : decode cX2_takes 85 = .ok (.if_icmp .gt 7, 3) := by decide +kernel
theorem dX2_takes_88 : decode cX2_takes 88 = .ok (.iconst 1, 1) := by decide +kernel
theorem dX2_takes_89 : decode cX2_takes 89 = .ok (.goto 4, 3) := by decide +kernel
theorem dX2_takes_92 : decode cX2_takes 92 = .ok (.iconst 0, 1) := by decide +kernel
theorem dX2_takes_93 : decode cX2_takes 93 = .ok (.ireturn, 1) := by decide +kernel
theorem dX2_takes_94 : decode cX2_takes 94 = .ok (.iconst 0, 1) := by decide +kernel
theorem dX2_takes_95 : decode cX2_takes 95 = .ok (.ireturn, 1) := by decide +kernel
theorem dX2_make_0 : decode cX2_make 0 = .ok (.aload 4, 2) := by decide +kernel
theorem dX2_make_2 : decode cX2_make 2 = .ok (.aload_n 3, 1) := by decide +kernel
theorem dX2_make_3 : decode cX2_make 3 = .ok (.invokevirtual 15, 3) := by decide +kernel
theorem dX2_make_6 : decode cX2_make 6 = .ok (.iload_n 1, 1) := by decide +kernel
theorem dX2_make_7 : decode cX2_make 7 = .ok (.tableswitch 124 1 3 #[25, 72, 114], 25) := by decide +kernel
theorem dX2_make_32 : decode cX2_make 32 = .ok (.iload_n 2, 1) := by decide +kernel
theorem dX2_make_33 : decode cX2_make 33 = .ok (.iconst 0, 1) := by decide +kernel
theorem dX2_make_34 : decode cX2_make 34 = .ok (.invokestatic 21, 3) := by decide +kernel
theorem dX2_make_37 : decode cX2_make 37 = .ok (.istore 5, 2) := by decide +kernel
theorem dX2_make_39 : decode cX2_make 39 = .ok (.iload 5, 2) := by decide +kernel
theorem dX2_make_41 : decode cX2_make 41 = .ok (.aload_n 3, 1) := by decide +kernel
theorem dX2_make_42 : decode cX2_make 42 = .ok (.invokevirtual 27, 3) := by decide +kernel
theorem dX2_make_45 : decode cX2_make 45 = .ok (.if_icmp .ge 31, 3) := by decide +kernel
theorem dX2_make_48 : decode cX2_make 48 = .ok (.aload 4, 2) := by decide +kernel
theorem dX2_make_50 : decode cX2_make 50 = .ok (.iload 5, 2) := by decide +kernel
theorem dX2_make_52 : decode cX2_make 52 = .ok (.aload_n 3, 1) := by decide +kernel
theorem dX2_make_53 : decode cX2_make 53 = .ok (.iload 5, 2) := by decide +kernel
theorem dX2_make_55 : decode cX2_make 55 = .ok (.invokevirtual 31, 3) := by decide +kernel
theorem dX2_make_58 : decode cX2_make 58 = .ok (.aload_n 3, 1) := by decide +kernel
theorem dX2_make_59 : decode cX2_make 59 = .ok (.iload 5, 2) := by decide +kernel
theorem dX2_make_61 : decode cX2_make 61 = .ok (.iload_n 2, 1) := by decide +kernel
theorem dX2_make_62 : decode cX2_make 62 = .ok (.isub, 1) := by decide +kernel
theorem dX2_make_63 : decode cX2_make 63 = .ok (.invokevirtual 31, 3) := by decide +kernel
theorem dX2_make_66 : decode cX2_make 66 = .ok (.isub, 1) := by decide +kernel
theorem dX2_make_67 : decode cX2_make 67 = .ok (.invokevirtual 35, 3) := by decide +kernel
theorem dX2_make_70 : decode cX2_make 70 = .ok (.iinc 5 1, 3) := by decide +kernel
theorem dX2_make_73 : decode cX2_make 73 = .ok (.goto (-34), 3) := by decide +kernel
theorem dX2_make_76 : decode cX2_make 76 = .ok (.goto 62, 3) := by decide +kernel
theorem dX2_make_79 : decode cX2_make 79 = .ok (.aload_n 0, 1) := by decide +kernel
theorem dX2_make_80 : decode cX2_make 80 = .ok (.invokevirtual 39, 3) := by decide +kernel
theorem dX2_make_83 : decode cX2_make 83 = .ok (.iconst 0, 1) := by decide +kernel
theorem dX2_make_84 : decode cX2_make 84 = .ok (.istore 5, 2) := by decide +kernel
theorem dX2_make_86 : decode cX2_make 86 = .ok (.iload 5, 2) := by decide +kernel
theorem dX2_make_88 : decode cX2_make 88 = .ok (.aload_n 3, 1) := by decide +kernel
theorem dX2_make_89 : decode cX2_make 89 = .ok (.invokevirtual 27, 3) := by decide +kernel
theorem dX2_make_92 : decode cX2_make 92 = .ok (.if_icmp .ge 26, 3) := by decide +kernel
theorem dX2_make_95 : decode cX2_make 95 = .ok (.aload 4, 2) := by decide +kernel
theorem dX2_make_97 : decode cX2_make 97 = .ok (.iload 5, 2) := by decide +kernel
theorem dX2_make_99 : decode cX2_make 99 = .ok (.aload_n 0, 1) := by decide +kernel
theorem dX2_make_100 : decode cX2_make 100 = .ok (.aload_n 3, 1) := by decide +kernel
theorem dX2_make_101 : decode cX2_make 101 = .ok (.iload 5, 2) := by decide +kernel
theorem dX2_make_103 : decode cX2_make 103 = .ok (.invokevirtual 31, 3) := by decide +kernel
theorem dX2_make_106 : decode cX2_make 106 = .ok (.invokevirtual 42, 3) := by decide +kernel
theorem dX2_make_109 : decode cX2_make 109 = .ok (.invokevirtual 35, 3) := by decide +kernel
theorem dX2_make_112 : decode cX2_make 112 = .ok (.iinc 5 1, 3) := by decide +kernel
theorem dX2_make_115 : decode cX2_make 115 = .ok (.goto (-29), 3) := by decide +kernel
theorem dX2_make_118 : decode cX2_make 118 = .ok (.goto 20, 3) := by decide +kernel
theorem dX2_make_121 : decode cX2_make 121 = .ok (.iload_n 2, 1) := by decide +kernel
theorem dX2_make_122 : decode cX2_make 122 = .ok (.aload_n 3, 1) := by decide +kernel
theorem dX2_make_123 : decode cX2_make 123 = .ok (.aload 4, 2) := by decide +kernel
theorem dX2_make_125 : decode cX2_make 125 = .ok (.invokestatic 45, 3) := by decide +kernel
theorem dX2_make_128 : decode cX2_make 128 = .ok (.goto 10, 3) := by decide +kernel
theorem dX2_make_131 : decode cX2_make 131 = .ok (.iload_n 2, 1) := by decide +kernel
theorem dX2_make_132 : decode cX2_make 132 = .ok (.aload_n 3, 1) := by decide +kernel
theorem dX2_make_133 : decode cX2_make 133 = .ok (.aload 4, 2) := by decide +kernel
theorem dX2_make_135 : decode cX2_make 135 = .ok (.invokestatic 49, 3) := by decide +kernel
theorem dX2_make_138 : decode cX2_make 138 = .ok (.return_, 1) := by decide +kernel
theorem dX2_undo_0 : decode cX2_undo 0 = .ok (.aload 4, 2) := by decide +kernel
theorem dX2_undo_2 : decode cX2_undo 2 = .ok (.aload_n 3, 1) := by decide +kernel
theorem dX2_undo_3 : decode cX2_undo 3 = .ok (.invokevirtual 15, 3) := by decide +kernel
theorem dX2_undo_6 : decode cX2_undo 6 = .ok (.iload_n 1, 1) := by decide +kernel
theorem dX2_undo_7 : decode cX2_undo 7 = .ok (.tableswitch 125 1 3 #[25, 73, 115], 25) := by decide +kernel
theorem dX2_undo_32 : decode cX2_undo 32 = .ok (.iload_n 2, 1) := by decide +kernel
theorem dX2_undo_33 : decode cX2_undo 33 = .ok (.iconst 0, 1) := by decide +kernel
theorem dX2_undo_34 : decode cX2_undo 34 = .ok (.invokestatic 21, 3) := by decide +kernel
theorem dX2_undo_37 : decode cX2_undo 37 = .ok (.istore 5, 2) := by decide +kernel
theorem dX2_undo_39 : decode cX2_undo 39 = .ok (.iload 5, 2) := by decide +kernel
theorem dX2_undo_41 : decode cX2_undo 41 = .ok (.aload_n 3, 1) := by decide +kernel
theorem dX2_undo_42 : decode cX2_undo 42 = .ok (.invokevirtual 27, 3) := by decide +kernel
theorem dX2_undo_45 : decode cX2_undo 45 = .ok (.if_icmp .ge 32, 3) := by decide +kernel
theorem dX2_undo_48 : decode cX2_undo 48 = .ok (.aload 4, 2) := by decide +kernel
theorem dX2_undo_50 : decode cX2_undo 50 = .ok (.iload 5, 2) := by decide +kernel
theorem dX2_undo_52 : decode cX2_undo 52 = .ok (.aload_n 3, 1) := by decide +kernel
theorem dX2_undo_53 : decode cX2_undo 53 = .ok (.iload 5, 2) := by decide +kernel
theorem dX2_undo_55 : decode cX2_undo 55 = .ok (.invokevirtual 31, 3) := by decide +kernel
theorem dX2_undo_58 : decode cX2_undo 58 = .ok (.aload 4, 2) := by decide +kernel
theorem dX2_undo_60 : decode cX2_undo 60 = .ok (.iload 5, 2) := by decide +kernel
theorem dX2_undo_62 : decode cX2_undo 62 = .ok (.iload_n 2, 1) := by decide +kernel
theorem dX2_undo_63 : decode cX2_undo 63 = .ok (.isub, 1) := by decide +kernel
theorem dX2_undo_64 : decode cX2_undo 64 = .ok (.invokevirtual 31, 3) := by decide +kernel
theorem dX2_undo_67 : decode cX2_undo 67 = .ok (.iadd, 1) := by decide +kernel
theorem dX2_undo_68 : decode cX2_undo 68 = .ok (.invokevirtual 35, 3) := by decide +kernel
theorem dX2_undo_71 : decode cX2_undo 71 = .ok (.iinc 5 1, 3) := by decide +kernel
theorem dX2_undo_74 : decode cX2_undo 74 = .ok (.goto (-35), 3) := by decide +kernel
theorem dX2_undo_77 : decode cX2_undo 77 = .ok (.goto 62, 3) := by decide +kernel
theorem dX2_undo_80 : decode cX2_undo 80 = .ok (.aload_n 0, 1) := by decide +kernel
theorem dX2_undo_81 : decode cX2_undo 81 = .ok (.invokevirtual 39, 3) := by decide +kernel
theorem dX2_undo_84 : decode cX2_undo 84 = .ok (.iconst 0, 1) := by decide +kernel
theorem dX2_undo_85 : decode cX2_undo 85 = .ok (.istore 5, 2) := by decide +kernel
theorem dX2_undo_87 : decode cX2_undo 87 = .ok (.iload 5, 2) := by decide +kernel
theorem dX2_undo_89 : decode cX2_undo 89 = .ok (.aload_n 3, 1) := by decide +kernel
theorem dX2_undo_90 : decode cX2_undo 90 = .ok (.invokevirtual 27, 3) := by decide +kernel
theorem dX2_undo_93 : decode cX2_undo 93 = .ok (.if_icmp .ge 26, 3) := by decide +kernel
theorem dX2_undo_96 : decode cX2_undo 96 = .ok (.aload 4, 2) := by decide +kernel
theorem dX2_undo_98 : decode cX2_undo 98 = .ok (.iload 5, 2) := by decide +kernel
theorem dX2_undo_100 : decode cX2_undo 100 = .ok (.aload_n 0, 1) := by decide +kernel
theorem dX2_undo_101 : decode cX2_undo 101 = .ok (.aload_n 3, 1) := by decide +kernel
theorem dX2_undo_102 : decode cX2_undo 102 = .ok (.iload 5, 2) := by decide +kernel
theorem dX2_undo_104 : decode cX2_undo 104 = .ok (.invokevirtual 31, 3) := by decide +kernel
theorem dX2_undo_107 : decode cX2_undo 107 = .ok (.invokevirtual 52, 3) := by decide +kernel
theorem dX2_undo_110 : decode cX2_undo 110 = .ok (.invokevirtual 35, 3) := by decide +kernel
theorem dX2_undo_113 : decode cX2_undo 113 = .ok (.iinc 5 1, 3) := by decide +kernel
theorem dX2_undo_116 : decode cX2_undo 116 = .ok (.goto (-29), 3) := by decide +kernel
theorem dX2_undo_119 : decode cX2_undo 119 = .ok (.goto 20, 3) := by decide +kernel
theorem dX2_undo_122 : decode cX2_undo 122 = .ok (.iload_n 2, 1) := by decide +kernel
theorem dX2_undo_123 : decode cX2_undo 123 = .ok (.aload_n 3, 1) := by decide +kernel
theorem dX2_undo_124 : decode cX2_undo 124 = .ok (.aload 4, 2) := by decide +kernel
theorem dX2_undo_126 : decode cX2_undo 126 = .ok (.invokestatic 55, 3) := by decide +kernel
theorem dX2_undo_129 : decode cX2_undo 129 = .ok (.goto 10, 3) := by decide +kernel
theorem dX2_undo_132 : decode cX2_undo 132 = .ok (.iload_n 2, 1) := by decide +kernel
theorem dX2_undo_133 : decode cX2_undo 133 = .ok (.aload_n 3, 1) := by decide +kernel
theorem dX2_undo_134 : decode cX2_undo 134 = .ok (.aload 4, 2) := by decide +kernel
theorem dX2_undo_136 : decode cX2_undo 136 = .ok (.invokestatic 49, 3) := by decide +kernel
theorem dX2_undo_139 : decode cX2_undo 139 = .ok (.return_, 1) := by decide +kernel
theorem dX2_mask_0 : decode cX2_mask 0 = .ok (.iconst 0, 1) := by decide +kernel
theorem dX2_mask_1 : decode cX2_mask 1 = .ok (.istore_n 3, 1) := by decide +kernel
theorem dX2_mask_2 : decode cX2_mask 2 = .ok (.iload_n 3, 1) := by decide +kernel
theorem dX2_mask_3 : decode cX2_mask 3 = .ok (.aload_n 1, 1) := by decide +kernel
theorem dX2_mask_4 : decode cX2_mask 4 = .ok (.invokevirtual 27, 3) := by decide +kernel
theorem dX2_mask_7 : decode cX2_mask 7 = .ok (.if_icmp .ge 21, 3) := by decide +kernel
theorem dX2_mask_10 : decode cX2_mask 10 = .ok (.aload_n 2, 1) := by decide +kernel
theorem dX2_mask_11 : decode cX2_mask 11 = .ok (.iload_n 3, 1) := by decide +kernel
theorem dX2_mask_12 : decode cX2_mask 12 = .ok (.aload_n 1, 1) := by decide +kernel
theorem dX2_mask_13 : decode cX2_mask 13 = .ok (.iload_n 3, 1) := by decide +kernel
theorem dX2_mask_14 : decode cX2_mask 14 = .ok (.invokevirtual 31, 3) := by decide +kernel
theorem dX2_mask_17 : decode cX2_mask 17 = .ok (.iload_n 0, 1) := by decide +kernel
theorem dX2_mask_18 : decode cX2_mask 18 = .ok (.ixor, 1) := by decide +kernel
theorem dX2_mask_19 : decode cX2_mask 19 = .ok (.invokevirtual 35, 3) := by decide +kernel
theorem dX2_mask_22 : decode cX2_mask 22 = .ok (.iinc 3 1, 3) := by decide +kernel
theorem dX2_mask_25 : decode cX2_mask 25 = .ok (.goto (-23), 3) := by decide +kernel
theorem dX2_mask_28 : decode cX2_mask 28 = .ok (.return_, 1) := by decide +kernel
theorem dX2_gatherPlanes_0 : decode cX2_gatherPlanes 0 = .ok (.iload_n 0, 1) := by decide +kernel
theorem dX2_gatherPlanes_1 : decode cX2_gatherPlanes 1 = .ok (.iconst 1, 1) := by decide +kernel
theorem dX2_gatherPlanes_2 : decode cX2_gatherPlanes 2 = .ok (.invokestatic 21, 3) := by decide +kernel
theorem dX2_gatherPlanes_5 : decode cX2_gatherPlanes 5 = .ok (.istore_n 3, 1) := by decide +kernel
theorem dX2_gatherPlanes_6 : decode cX2_gatherPlanes 6 = .ok (.iconst 0, 1) := by decide +kernel
theorem dX2_gatherPlanes_7 : decode cX2_gatherPlanes 7 = .ok (.istore 4, 2) := by decide +kernel
theorem dX2_gatherPlanes_9 : decode cX2_gatherPlanes 9 = .ok (.iconst 0, 1) := by decide +kernel
theorem dX2_gatherPlanes_10 : decode cX2_gatherPlanes 10 = .ok (.istore 5, 2) := by decide +kernel
theorem dX2_gatherPlanes_12 : decode cX2_gatherPlanes 12 = .ok (.iload 5, 2) := by decide +kernel
theorem dX2_gatherPlanes_14 : decode cX2_gatherPlanes 14 = .ok (.iload_n 3, 1) := by decide +kernel
theorem dX2_gatherPlanes_15 : decode cX2_gatherPlanes 15 = .ok (.if_icmp .ge 46, 3) := by decide +kernel
theorem dX2_gatherPlanes_18 : decode cX2_gatherPlanes 18 = .ok (.iload 5, 2) := by decide +kernel
theorem dX2_gatherPlanes_20 : decode cX2_gatherPlanes 20 = .ok (.istore 6, 2) := by decide +kernel
theorem dX2_gatherPlanes_22 : decode cX2_gatherPlanes 22 = .ok (.iload 6, 2) := by decide +kernel
theorem dX2_gatherPlanes_24 : decode cX2_gatherPlanes 24 = .ok (.aload_n 1, 1) := by decide +kernel
theorem dX2_gatherPlanes_25 : decode cX2_gatherPlanes 25 = .ok (.invokevirtual 27, 3) := by decide +kernel
theorem dX2_gatherPlanes_28 : decode cX2_gatherPlanes 28 = .ok (.if_icmp .ge 27, 3) := by decide +kernel
theorem dX2_gatherPlanes_31 : decode cX2_gatherPlanes 31 = .ok (.aload_n 2, 1) := by decide +kernel
theorem dX2_gatherPlanes_32 : decode cX2_gatherPlanes 32 = .ok (.iload 4, 2) := by decide +kernel
theorem dX2_gatherPlanes_34 : decode cX2_gatherPlanes 34 = .ok (.aload_n 1, 1) := by decide +kernel
theorem dX2_gatherPlanes_35 : decode cX2_gatherPlanes 35 = .ok (.iload 6, 2) := by decide +kernel
theorem dX2_gatherPlanes_37 : decode cX2_gatherPlanes 37 = .ok (.invokevirtual 31, 3) := by decide +kernel
theorem dX2_gatherPlanes_40 : decode cX2_gatherPlanes 40 = .ok (.invokevirtual 35, 3) := by decide +kernel
theorem dX2_gatherPlanes_43 : decode cX2_gatherPlanes 43 = .ok (.iinc 4 1, 3) := by decide +kernel
theorem dX2_gatherPlanes_46 : decode cX2_gatherPlanes 46 = .ok (.iload 6, 2) := by decide +kernel
theorem dX2_gatherPlanes_48 : decode cX2_gatherPlanes 48 = .ok (.iload_n 3, 1) := by decide +kernel
theorem dX2_gatherPlanes_49 : decode cX2_gatherPlanes 49 = .ok (.iadd, 1) := by decide +kernel
theorem dX2_gatherPlanes_50 : decode cX2_gatherPlanes 50 = .ok (.istore 6, 2) := by decide +kernel
theorem dX2_gatherPlanes_52 : decode cX2_gatherPlanes 52 = .ok (.goto (-30), 3) := by decide +kernel
theorem dX2_gatherPlanes_55 : decode cX2_gatherPlanes 55 = .ok (.iinc 5 1, 3) := by decide +kernel
theorem dX2_gatherPlanes_58 : decode cX2_gatherPlanes 58 = .ok (.goto (-46), 3) := by decide +kernel
theorem dX2_gatherPlanes_61 : decode cX2_gatherPlanes 61 = .ok (.return_, 1) := by decide +kernel
theorem dX2_spreadPlanes_0 : decode cX2_spreadPlanes 0 = .ok (.iload_n 0, 1) := by decide +kernel
theorem dX2_spreadPlanes_1 : decode cX2_spreadPlanes 1 = .ok (.iconst 1, 1) := by decide +kernel
theorem dX2_spreadPlanes_2 : decode cX2_spreadPlanes 2 = .ok (.invokestatic 21, 3) := by decide +kernel
theorem dX2_spreadPlanes_5 : decode cX2_spreadPlanes 5 = .ok (.istore_n 3, 1) := by decide +kernel
theorem dX2_spreadPlanes_6 : decode cX2_spreadPlanes 6 = .ok (.iconst 0, 1) := by decide +kernel
theorem dX2_spreadPlanes_7 : decode cX2_spreadPlanes 7 = .ok (.istore 4, 2) := by decide +kernel
theorem dX2_spreadPlanes_9 : decode cX2_spreadPlanes 9 = .ok (.iconst 0, 1) := by decide +kernel
theorem dX2_spreadPlanes_10 : decode cX2_spreadPlanes 10 = .ok (.istore 5, 2) := by decide +kernel
theorem dX2_spreadPlanes_12 : decode cX2_spreadPlanes 12 = .ok (.iload 5, 2) := by decide +kernel
theorem dX2_spreadPlanes_14 : decode cX2_spreadPlanes 14 = .ok (.iload_n 3, 1) := by decide +kernel
theorem dX2_spreadPlanes_15 : decode cX2_spreadPlanes 15 = .ok (.if_icmp .ge 46, 3) := by decide +kernel
theorem dX2_spreadPlanes_18 : decode cX2_spreadPlanes 18 = .ok (.iload 5, 2) := by decide +kernel
theorem dX2_spreadPlanes_20 : decode cX2_spreadPlanes 20 = .ok (.istore 6, 2) := by decide +kernel
theorem dX2_spreadPlanes_22 : decode cX2_spreadPlanes 22 = .ok (.iload 6, 2) := by decide +kernel
theorem dX2_spreadPlanes_24 : decode cX2_spreadPlanes 24 = .ok (.aload_n 1, 1) := by decide +kernel
theorem dX2_spreadPlanes_25 : decode cX2_spreadPlanes 25 = .ok (.invokevirtual 27, 3) := by decide +kernel
theorem dX2_spreadPlanes_28 : decode cX2_spreadPlanes 28 = .ok (.if_icmp .ge 27, 3) := by decide +kernel
theorem dX2_spreadPlanes_31 : decode cX2_spreadPlanes 31 = .ok (.aload_n 2, 1) := by decide +kernel
theorem dX2_spreadPlanes_32 : decode cX2_spreadPlanes 32 = .ok (.iload 6, 2) := by decide +kernel
theorem dX2_spreadPlanes_34 : decode cX2_spreadPlanes 34 = .ok (.aload_n 1, 1) := by decide +kernel
theorem dX2_spreadPlanes_35 : decode cX2_spreadPlanes 35 = .ok (.iload 4, 2) := by decide +kernel
theorem dX2_spreadPlanes_37 : decode cX2_spreadPlanes 37 = .ok (.invokevirtual 31, 3) := by decide +kernel
theorem dX2_spreadPlanes_40 : decode cX2_spreadPlanes 40 = .ok (.invokevirtual 35, 3) := by decide +kernel
theorem dX2_spreadPlanes_43 : decode cX2_spreadPlanes 43 = .ok (.iinc 4 1, 3) := by decide +kernel
theorem dX2_spreadPlanes_46 : decode cX2_spreadPlanes 46 = .ok (.iload 6, 2) := by decide +kernel
theorem dX2_spreadPlanes_48 : decode cX2_spreadPlanes 48 = .ok (.iload_n 3, 1) := by decide +kernel
theorem dX2_spreadPlanes_49 : decode cX2_spreadPlanes 49 = .ok (.iadd, 1) := by decide +kernel
theorem dX2_spreadPlanes_50 : decode cX2_spreadPlanes 50 = .ok (.istore 6, 2) := by decide +kernel
theorem dX2_spreadPlanes_52 : decode cX2_spreadPlanes 52 = .ok (.goto (-30), 3) := by decide +kernel
theorem dX2_spreadPlanes_55 : decode cX2_spreadPlanes 55 = .ok (.iinc 5 1, 3) := by decide +kernel
theorem dX2_spreadPlanes_58 : decode cX2_spreadPlanes 58 = .ok (.goto (-46), 3) := by decide +kernel
theorem dX2_spreadPlanes_61 : decode cX2_spreadPlanes 61 = .ok (.return_, 1) := by decide +kernel
theorem dX2_startOrder_0 : decode cX2_startOrder 0 = .ok (.iconst 0, 1) := by decide +kernel
theorem dX2_startOrder_1 : decode cX2_startOrder 1 = .ok (.istore_n 1, 1) := by decide +kernel
theorem dX2_startOrder_2 : decode cX2_startOrder 2 = .ok (.iload_n 1, 1) := by decide +kernel
theorem dX2_startOrder_3 : decode cX2_startOrder 3 = .ok (.sipush 256, 3) := by decide +kernel
theorem dX2_startOrder_6 : decode cX2_startOrder 6 = .ok (.if_icmp .ge 16, 3) := by decide +kernel
theorem dX2_startOrder_9 : decode cX2_startOrder 9 = .ok (.aload_n 0, 1) := by decide +kernel
theorem dX2_startOrder_10 : decode cX2_startOrder 10 = .ok (.getfield 9, 3) := by decide +kernel
theorem dX2_startOrder_13 : decode cX2_startOrder 13 = .ok (.iload_n 1, 1) := by decide +kernel
theorem dX2_startOrder_14 : decode cX2_startOrder 14 = .ok (.iload_n 1, 1) := by decide +kernel
theorem dX2_startOrder_15 : decode cX2_startOrder 15 = .ok (.iastore, 1) := by decide +kernel
theorem dX2_startOrder_16 : decode cX2_startOrder 16 = .ok (.iinc 1 1, 3) := by decide +kernel
theorem dX2_startOrder_19 : decode cX2_startOrder 19 = .ok (.goto (-17), 3) := by decide +kernel
theorem dX2_startOrder_22 : decode cX2_startOrder 22 = .ok (.return_, 1) := by decide +kernel
theorem dX2_bringToFront_0 : decode cX2_bringToFront 0 = .ok (.iload_n 1, 1) := by decide +kernel
theorem dX2_bringToFront_1 : decode cX2_bringToFront 1 = .ok (.istore_n 2, 1) := by decide +kernel
theorem dX2_bringToFront_2 : decode cX2_bringToFront 2 = .ok (.iconst 0, 1) := by decide +kernel
theorem dX2_bringToFront_3 : decode cX2_bringToFront 3 = .ok (.istore_n 3, 1) := by decide +kernel
theorem dX2_bringToFront_4 : decode cX2_bringToFront 4 = .ok (.iload_n 3, 1) := by decide +kernel
theorem dX2_bringToFront_5 : decode cX2_bringToFront 5 = .ok (.sipush 256, 3) := by decide +kernel
theorem dX2_bringToFront_8 : decode cX2_bringToFront 8 = .ok (.if_icmp .ge 35, 3) := by decide +kernel
theorem dX2_bringToFront_11 : decode cX2_bringToFront 11 = .ok (.aload_n 0, 1) := by decide +kernel
theorem dX2_bringToFront_12 : decode cX2_bringToFront 12 = .ok (.getfield 9, 3) := by decide +kernel
theorem dX2_bringToFront_15 : decode cX2_bringToFront 15 = .ok (.iload_n 3, 1) := by decide +kernel
theorem dX2_bringToFront_16 : decode cX2_bringToFront 16 = .ok (.iaload, 1) := by decide +kernel
theorem dX2_bringToFront_17 : decode cX2_bringToFront 17 = .ok (.istore 4, 2) := by decide +kernel
theorem dX2_bringToFront_19 : decode cX2_bringToFront 19 = .ok (.aload_n 0, 1) := by decide +kernel
theorem dX2_bringToFront_20 : decode cX2_bringToFront 20 = .ok (.getfield 9, 3) := by decide +kernel
theorem dX2_bringToFront_23 : decode cX2_bringToFront 23 = .ok (.iload_n 3, 1) := by decide +kernel
theorem dX2_bringToFront_24 : decode cX2_bringToFront 24 = .ok (.iload_n 2, 1) := by decide +kernel
theorem dX2_bringToFront_25 : decode cX2_bringToFront 25 = .ok (.iastore, 1) := by decide +kernel
theorem dX2_bringToFront_26 : decode cX2_bringToFront 26 = .ok (.iload 4, 2) := by decide +kernel
theorem dX2_bringToFront_28 : decode cX2_bringToFront 28 = .ok (.iload_n 1, 1) := by decide +kernel
theorem dX2_bringToFront_29 : decode cX2_bringToFront 29 = .ok (.if_icmp .ne 5, 3) := by decide +kernel
theorem dX2_bringToFront_32 : decode cX2_bringToFront 32 = .ok (.iload_n 3, 1) := by decide +kernel
theorem dX2_bringToFront_33 : decode cX2_bringToFront 33 = .ok (.ireturn, 1) := by decide +kernel
theorem dX2_bringToFront_34 : decode cX2_bringToFront 34 = .ok (.iload 4, 2) := by decide +kernel
theorem dX2_bringToFront_36 : decode cX2_bringToFront 36 = .ok (.istore_n 2, 1) := by decide +kernel
theorem dX2_bringToFront_37 : decode cX2_bringToFront 37 = .ok (.iinc 3 1, 3) := by decide +kernel
theorem dX2_bringToFront_40 : decode cX2_bringToFront 40 = .ok (.goto (-36), 3) := by decide +kernel
theorem dX2_bringToFront_43 : decode cX2_bringToFront 43 = .ok (.iconst 0, 1) := by decide +kernel
theorem dX2_bringToFront_44 : decode cX2_bringToFront 44 = .ok (.ireturn, 1) := by decide +kernel
theorem dX2_takeToFront_0 : decode cX2_takeToFront 0 = .ok (.iload_n 1, 1) := by decide +kernel
theorem dX2_takeToFront_1 : decode cX2_takeToFront 1 = .ok (.sipush 255, 3) := by decide +kernel
theorem dX2_takeToFront_4 : decode cX2_takeToFront 4 = .ok (.iand, 1) := by decide +kernel
theorem dX2_takeToFront_5 : decode cX2_takeToFront 5 = .ok (.istore_n 2, 1) := by decide +kernel
theorem dX2_takeToFront_6 : decode cX2_takeToFront 6 = .ok (.aload_n 0, 1) := by decide +kernel
theorem dX2_takeToFront_7 : decode cX2_takeToFront 7 = .ok (.getfield 9, 3) := by decide +kernel
theorem dX2_takeToFront_10 : decode cX2_takeToFront 10 = .ok (.iload_n 2, 1) := by decide +kernel
theorem dX2_takeToFront_11 : decode cX2_takeToFront 11 = .ok (.iaload, 1) := by decide +kernel
theorem dX2_takeToFront_12 : decode cX2_takeToFront 12 = .ok (.istore_n 3, 1) := by decide +kernel
theorem dX2_takeToFront_13 : decode cX2_takeToFront 13 = .ok (.aload_n 0, 1) := by decide +kernel
theorem dX2_takeToFront_14 : decode cX2_takeToFront 14 = .ok (.getfield 9, 3) := by decide +kernel
theorem dX2_takeToFront_17 : decode cX2_takeToFront 17 = .ok (.iconst 0, 1) := by decide +kernel
theorem dX2_takeToFront_18 : decode cX2_takeToFront 18 = .ok (.aload_n 0, 1) := by decide +kernel
theorem dX2_takeToFront_19 : decode cX2_takeToFront 19 = .ok (.getfield 9, 3) := by decide +kernel
theorem dX2_takeToFront_22 : decode cX2_takeToFront 22 = .ok (.iconst 1, 1) := by decide +kernel
theorem dX2_takeToFront_23 : decode cX2_takeToFront 23 = .ok (.iload_n 2, 1) := by decide +kernel
theorem dX2_takeToFront_24 : decode cX2_takeToFront 24 = .ok (.invokestatic 58, 3) := by decide +kernel
theorem dX2_takeToFront_27 : decode cX2_takeToFront 27 = .ok (.aload_n 0, 1) := by decide +kernel
theorem dX2_takeToFront_28 : decode cX2_takeToFront 28 = .ok (.getfield 9, 3) := by decide +kernel
theorem dX2_takeToFront_31 : decode cX2_takeToFront 31 = .ok (.iconst 0, 1) := by decide +kernel
theorem dX2_takeToFront_32 : decode cX2_takeToFront 32 = .ok (.iload_n 3, 1) := by decide +kernel
theorem dX2_takeToFront_33 : decode cX2_takeToFront 33 = .ok (.iastore, 1) := by decide +kernel
theorem dX2_takeToFront_34 : decode cX2_takeToFront 34 = .ok (.iload_n 3, 1) := by decide +kernel
theorem dX2_takeToFront_35 : decode cX2_takeToFront 35 = .ok (.ireturn, 1) := by decide +kernel
theorem dX3_init_0 : decode cX3_init 0 = .ok (.aload_n 0, 1) := by decide +kernel
theorem dX3_init_1 : decode cX3_init 1 = .ok (.invokespecial 3, 3) := by decide +kernel
theorem dX3_init_4 : decode cX3_init 4 = .ok (.aload_n 0, 1) := by decide +kernel
theorem dX3_init_5 : decode cX3_init 5 = .ok (.sipush 256, 3) := by decide +kernel
theorem dX3_init_8 : decode cX3_init 8 = .ok (.newarray .int, 2) := by decide +kernel
theorem dX3_init_10 : decode cX3_init 10 = .ok (.putfield 9, 3) := by decide +kernel
theorem dX3_init_13 : decode cX3_init 13 = .ok (.aload_n 0, 1) := by decide +kernel
theorem dX3_init_14 : decode cX3_init 14 = .ok (.sipush 256, 3) := by decide +kernel
theorem dX3_init_17 : decode cX3_init 17 = .ok (.newarray .int, 2) := by decide +kernel
theorem dX3_init_19 : decode cX3_init 19 = .ok (.putfield 15, 3) := by decide +kernel
theorem dX3_init_22 : decode cX3_init 22 = .ok (.aload_n 0, 1) := by decide +kernel
theorem dX3_init_23 : decode cX3_init 23 = .ok (.sipush 256, 3) := by decide +kernel
theorem dX3_init_26 : decode cX3_init 26 = .ok (.newarray .int, 2) := by decide +kernel
theorem dX3_init_28 : decode cX3_init 28 = .ok (.putfield 18, 3) := by decide +kernel
theorem dX3_init_31 : decode cX3_init 31 = .ok (.aload_n 0, 1) := by decide +kernel
theorem dX3_init_32 : decode cX3_init 32 = .ok (.sipush 300, 3) := by decide +kernel
theorem dX3_init_35 : decode cX3_init 35 = .ok (.newarray .int, 2) := by decide +kernel
theorem dX3_init_37 : decode cX3_init 37 = .ok (.putfield 21, 3) := by decide +kernel
theorem dX3_init_40 : decode cX3_init 40 = .ok (.aload_n 0, 1) := by decide +kernel
theorem dX3_init_41 : decode cX3_init 41 = .ok (.new 24, 3) := by decide +kernel
theorem dX3_init_44 : decode cX3_init 44 = .ok (.dup, 1) := by decide +kernel
theorem dX3_init_45 : decode cX3_init 45 = .ok (.invokespecial 26, 3) := by decide +kernel
theorem dX3_init_48 : decode cX3_init 48 = .ok (.putfield 27, 3) := by decide +kernel
theorem dX3_init_51 : decode cX3_init 51 = .ok (.aload_n 0, 1) := by decide +kernel
theorem dX3_init_52 : decode cX3_init 52 = .ok (.new 31, 3) := by decide +kernel
theorem dX3_init_55 : decode cX3_init 55 = .ok (.dup, 1) := by decide +kernel
theorem dX3_init_56 : decode cX3_init 56 = .ok (.invokespecial 33, 3) := by decide +kernel
theorem dX3_init_59 : decode cX3_init 59 = .ok (.putfield 34, 3) := by decide +kernel
theorem dX3_init_62 : decode cX3_init 62 = .ok (.aload_n 0, 1) := by decide +kernel
theorem dX3_init_63 : decode cX3_init 63 = .ok (.new 38, 3) := by decide +kernel
theorem dX3_init_66 : decode cX3_init 66 = .ok (.dup, 1) := by decide +kernel
theorem dX3_init_67 : decode cX3_init 67 = .ok (.invokespecial 40, 3) := by decide +kernel
theorem dX3_init_70 : decode cX3_init 70 = .ok (.putfield 41, 3) := by decide +kernel
theorem dX3_init_73 : decode cX3_init 73 = .ok (.aload_n 0, 1) := by decide +kernel
theorem dX3_init_74 : decode cX3_init 74 = .ok (.iconst 0, 1) := by decide +kernel
theorem dX3_init_75 : decode cX3_init 75 = .ok (.putfield 45, 3) := by decide +kernel
theorem dX3_init_78 : decode cX3_init 78 = .ok (.aload_n 0, 1) := by decide +kernel
theorem dX3_init_79 : decode cX3_init 79 = .ok (.iconst 0, 1) := by decide +kernel
theorem dX3_init_80 : decode cX3_init 80 = .ok (.putfield 49, 3) := by decide +kernel
theorem dX3_init_83 : decode cX3_init 83 = .ok (.return_, 1) := by decide +kernel
theorem dX3_write_0 : decode cX3_write 0 = .ok (.aload_n 2, 1) := by decide +kernel
theorem dX3_write_1 : decode cX3_write 1 = .ok (.invokevirtual 52, 3) := by decide +kernel
theorem dX3_write_4 : decode cX3_write 4 = .ok (.ifCond .ne 4, 3) := by decide +kernel
theorem dX3_write_7 : decode cX3_write 7 = .ok (.return_, 1) := by decide +kernel
theorem dX3_write_8 : decode cX3_write 8 = .ok (.iload_n 1, 1) := by decide +kernel
theorem dX3_write_9 : decode cX3_write 9 = .ok (.tableswitch 66 1 4 #[31, 39, 48, 57], 31) := by decide +kernel
theorem dX3_write_40 : decode cX3_write 40 = .ok (.aload_n 2, 1) := by decide +kernel
theorem dX3_write_41 : decode cX3_write 41 = .ok (.aload_n 3, 1) := by decide +kernel
theorem dX3_write_42 : decode cX3_write 42 = .ok (.invokestatic 58, 3) := by decide +kernel
theorem dX3_write_45 : decode cX3_write 45 = .ok (.goto 40, 3) := by decide +kernel
theorem dX3_write_48 : decode cX3_write 48 = .ok (.aload_n 0, 1) := by decide +kernel
theorem dX3_write_49 : decode cX3_write 49 = .ok (.aload_n 2, 1) := by decide +kernel
theorem dX3_write_50 : decode cX3_write 50 = .ok (.aload_n 3, 1) := by decide +kernel
theorem dX3_write_51 : decode cX3_write 51 = .ok (.invokevirtual 62, 3) := by decide +kernel
theorem dX3_write_54 : decode cX3_write 54 = .ok (.goto 31, 3) := by decide +kernel
theorem dX3_write_57 : decode cX3_write 57 = .ok (.aload_n 0, 1) := by decide +kernel
theorem dX3_write_58 : decode cX3_write 58 = .ok (.aload_n 2, 1) := by decide +kernel
theorem dX3_write_59 : decode cX3_write 59 = .ok (.aload_n 3, 1) := by decide +kernel
theorem dX3_write_60 : decode cX3_write 60 = .ok (.invokevirtual 65, 3) := by decide +kernel
theorem dX3_write_63 : decode cX3_write 63 = .ok (.goto 22, 3) := by decide +kernel
theorem dX3_write_66 : decode cX3_write 66 = .ok (.aload_n 0, 1) := by decide +kernel
theorem dX3_write_67 : decode cX3_write 67 = .ok (.aload_n 2, 1) := by decide +kernel
theorem dX3_write_68 : decode cX3_write 68 = .ok (.aload_n 3, 1) := by decide +kernel
theorem dX3_write_69 : decode cX3_write 69 = .ok (.invokevirtual 68, 3) := by decide +kernel
theorem dX3_write_72 : decode cX3_write 72 = .ok (.goto 13, 3) := by decide +kernel
theorem dX3_write_75 : decode cX3_write 75 = .ok (.aload_n 2, 1) := by decide +kernel
theorem dX3_write_76 : decode cX3_write 76 = .ok (.iconst 0, 1) := by decide +kernel
theorem dX3_write_77 : decode cX3_write 77 = .ok (.aload_n 2, 1) := by decide +kernel
theorem dX3_write_78 : decode cX3_write 78 = .ok (.invokevirtual 52, 3) := by decide +kernel
theorem dX3_write_81 : decode cX3_write 81 = .ok (.aload_n 3, 1) := by decide +kernel
theorem dX3_write_82 : decode cX3_write 82 = .ok (.invokestatic 71, 3) := by decide +kernel
theorem dX3_write_85 : decode cX3_write 85 = .ok (.return_, 1) := by decide +kernel
theorem dX3_copy_0 : decode cX3_copy 0 = .ok (.iload_n 1, 1) := by decide +kernel
theorem dX3_copy_1 : decode cX3_copy 1 = .ok (.istore 4, 2) := by decide +kernel
theorem dX3_copy_3 : decode cX3_copy 3 = .ok (.iload 4, 2) := by decide +kernel
theorem dX3_copy_5 : decode cX3_copy 5 = .ok (.iload_n 2, 1) := by decide +kernel
theorem dX3_copy_6 : decode cX3_copy 6 = .ok (.if_icmp .ge 19, 3) := by decide +kernel
theorem dX3_copy_9 : decode cX3_copy 9 = .ok (.aload_n 3, 1) := by decide +kernel
theorem dX3_copy_10 : decode cX3_copy 10 = .ok (.aload_n 0, 1) := by decide +kernel
theorem dX3_copy_11 : decode cX3_copy 11 = .ok (.iload 4, 2) := by decide +kernel
theorem dX3_copy_13 : decode cX3_copy 13 = .ok (.invokevirtual 75, 3) := by decide +kernel
theorem dX3_copy_16 : decode cX3_copy 16 = .ok (.invokevirtual 79, 3) := by decide +kernel
theorem dX3_copy_19 : decode cX3_copy 19 = .ok (.iinc 4 1, 3) := by decide +kernel
theorem dX3_copy_22 : decode cX3_copy 22 = .ok (.goto (-19), 3) := by decide +kernel
theorem dX3_copy_25 : decode cX3_copy 25 = .ok (.return_, 1) := by decide +kernel
theorem dX3_writePlain_0 : decode cX3_writePlain 0 = .ok (.aload_n 3, 1) := by decide +kernel
theorem dX3_writePlain_1 : decode cX3_writePlain 1 = .ok (.iload_n 2, 1) := by decide +kernel
theorem dX3_writePlain_2 : decode cX3_writePlain 2 = .ok (.iload_n 1, 1) := by decide +kernel
theorem dX3_writePlain_3 : decode cX3_writePlain 3 = .ok (.isub, 1) := by decide +kernel
theorem dX3_writePlain_4 : decode cX3_writePlain 4 = .ok (.iconst 1, 1) := by decide +kernel
theorem dX3_writePlain_5 : decode cX3_writePlain 5 = .ok (.isub, 1) := by decide +kernel
theorem dX3_writePlain_6 : decode cX3_writePlain 6 = .ok (.invokevirtual 79, 3) := by decide +kernel
theorem dX3_writePlain_9 : decode cX3_writePlain 9 = .ok (.aload_n 0, 1) := by decide +kernel
theorem dX3_writePlain_10 : decode cX3_writePlain 10 = .ok (.iload_n 1, 1) := by decide +kernel
theorem dX3_writePlain_11 : decode cX3_writePlain 11 = .ok (.iload_n 2, 1) := by decide +kernel
theorem dX3_writePlain_12 : decode cX3_writePlain 12 = .ok (.aload_n 3, 1) := by decide +kernel
theorem dX3_writePlain_13 : decode cX3_writePlain 13 = .ok (.invokestatic 71, 3) := by decide +kernel
theorem dX3_writePlain_16 : decode cX3_writePlain 16 = .ok (.return_, 1) := by decide +kernel
theorem dX3_writeRuns_0 : decode cX3_writeRuns 0 = .ok (.aload_n 0, 1) := by decide +kernel
theorem dX3_writeRuns_1 : decode cX3_writeRuns 1 = .ok (.invokevirtual 52, 3) := by decide +kernel
theorem dX3_writeRuns_4 : decode cX3_writeRuns 4 = .ok (.istore_n 2, 1) := by decide +kernel
theorem dX3_writeRuns_5 : decode cX3_writeRuns 5 = .ok (.iconst 0, 1) := by decide +kernel
theorem dX3_writeRuns_6 : decode cX3_writeRuns 6 = .ok (.istore_n 3, 1) := by decide +kernel
theorem dX3_writeRuns_7 : decode cX3_writeRuns 7 = .ok (.iconst 0, 1) := by decide +kernel
theorem dX3_writeRuns_8 : decode cX3_writeRuns 8 = .ok (.istore 4, 2) := by decide +kernel
theorem dX3_writeRuns_10 : decode cX3_writeRuns 10 = .ok (.iload 4, 2) := by decide +kernel
theorem dX3_writeRuns_12 : decode cX3_writeRuns 12 = .ok (.iload_n 2, 1) := by decide +kernel
theorem dX3_writeRuns_13 : decode cX3_writeRuns 13 = .ok (.if_icmp .ge 103, 3) := by decide +kernel
theorem dX3_writeRuns_16 : decode cX3_writeRuns 16 = .ok (.iload_n 3, 1) := by decide +kernel
theorem dX3_writeRuns_17 : decode cX3_writeRuns 17 = .ok (.iload_n 2, 1) := by decide +kernel
theorem dX3_writeRuns_18 : decode cX3_writeRuns 18 = .ok (.if_icmp .ge 98, 3) := by decide +kernel
theorem dX3_writeRuns_21 : decode cX3_writeRuns 21 = .ok (.aload_n 0, 1) := by decide +kernel
theorem dX3_writeRuns_22 : decode cX3_writeRuns 22 = .ok (.iload_n 3, 1) := by decide +kernel
theorem dX3_writeRuns_23 : decode cX3_writeRuns 23 = .ok (.sipush 129, 3) := by decide +kernel
theorem dX3_writeRuns_26 : decode cX3_writeRuns 26 = .ok (.invokestatic 83, 3) := by decide +kernel
theorem dX3_writeRuns_29 : decode cX3_writeRuns 29 = .ok (.istore 5, 2) := by decide +kernel
theorem dX3_writeRuns_31 : decode cX3_writeRuns 31 = .ok (.iload_n 3, 1) := by decide +kernel
theorem dX3_writeRuns_32 : decode cX3_writeRuns 32 = .ok (.iload 5, 2) := by decide +kernel
theorem dX3_writeRuns_34 : decode cX3_writeRuns 34 = .ok (.iadd, 1) := by decide +kernel
theorem dX3_writeRuns_35 : decode cX3_writeRuns 35 = .ok (.istore 6, 2) := by decide +kernel
theorem dX3_writeRuns_37 : decode cX3_writeRuns 37 = .ok (.iload 5, 2) := by decide +kernel
theorem dX3_writeRuns_39 : decode cX3_writeRuns 39 = .ok (.iconst 2, 1) := by decide +kernel
theorem dX3_writeRuns_40 : decode cX3_writeRuns 40 = .ok (.if_icmp .lt 24, 3) := by decide +kernel
theorem dX3_writeRuns_43 : decode cX3_writeRuns 43 = .ok (.aload_n 1, 1) := by decide +kernel
theorem dX3_writeRuns_44 : decode cX3_writeRuns 44 = .ok (.iload 5, 2) := by decide +kernel
theorem dX3_writeRuns_46 : decode cX3_writeRuns 46 = .ok (.bipush 126, 2) := by decide +kernel
theorem dX3_writeRuns_48 : decode cX3_writeRuns 48 = .ok (.iadd, 1) := by decide +kernel
theorem dX3_writeRuns_49 : decode cX3_writeRuns 49 = .ok (.invokevirtual 79, 3) := by decide +kernel
theorem dX3_writeRuns_52 : decode cX3_writeRuns 52 = .ok (.aload_n 1, 1) := by decide +kernel
theorem dX3_writeRuns_53 : decode cX3_writeRuns 53 = .ok (.aload_n 0, 1) := by decide +kernel
theorem dX3_writeRuns_54 : decode cX3_writeRuns 54 = .ok (.iload_n 3, 1) := by decide +kernel
theorem dX3_writeRuns_55 : decode cX3_writeRuns 55 = .ok (.invokevirtual 75, 3) := by decide +kernel
theorem dX3_writeRuns_58 : decode cX3_writeRuns 58 = .ok (.invokevirtual 79, 3) := by decide +kernel
theorem dX3_writeRuns_61 : decode cX3_writeRuns 61 = .ok (.goto 46, 3) := by decide +kernel
theorem dX3_writeRuns_64 : decode cX3_writeRuns 64 = .ok (.iload_n 2, 1) := by decide +kernel
theorem dX3_writeRuns_65 : decode cX3_writeRuns 65 = .ok (.iload_n 3, 1) := by decide +kernel
theorem dX3_writeRuns_66 : decode cX3_writeRuns 66 = .ok (.sipush 128, 3) := by decide +kernel
theorem dX3_writeRuns_69 : decode cX3_writeRuns 69 = .ok (.iadd, 1) := by decide +kernel
theorem dX3_writeRuns_70 : decode cX3_writeRuns 70 = .ok (.invokestatic 87, 3) := by decide +kernel
theorem dX3_writeRuns_73 : decode cX3_writeRuns 73 = .ok (.istore 7, 2) := by decide +kernel
theorem dX3_writeRuns_75 : decode cX3_writeRuns 75 = .ok (.iload 6, 2) := by decide +kernel
theorem dX3_writeRuns_77 : decode cX3_writeRuns 77 = .ok (.iload 7, 2) := by decide +kernel
theorem dX3_writeRuns_79 : decode cX3_writeRuns 79 = .ok (.if_icmp .ge 20, 3) := by decide +kernel
theorem dX3_writeRuns_82 : decode cX3_writeRuns 82 = .ok (.aload_n 0, 1) := by decide +kernel
theorem dX3_writeRuns_83 : decode cX3_writeRuns 83 = .ok (.iload 6, 2) := by decide +kernel
theorem dX3_writeRuns_85 : decode cX3_writeRuns 85 = .ok (.iconst 3, 1) := by decide +kernel
theorem dX3_writeRuns_86 : decode cX3_writeRuns 86 = .ok (.invokestatic 83, 3) := by decide +kernel
theorem dX3_writeRuns_89 : decode cX3_writeRuns 89 = .ok (.iconst 3, 1) := by decide +kernel
theorem dX3_writeRuns_90 : decode cX3_writeRuns 90 = .ok (.if_icmp .ge 9, 3) := by decide +kernel
theorem dX3_writeRuns_93 : decode cX3_writeRuns 93 = .ok (.iinc 6 1, 3) := by decide +kernel
theorem dX3_writeRuns_96 : decode cX3_writeRuns 96 = .ok (.goto (-21), 3) := by decide +kernel
theorem dX3_writeRuns_99 : decode cX3_writeRuns 99 = .ok (.aload_n 0, 1) := by decide +kernel
theorem dX3_writeRuns_100 : decode cX3_writeRuns 100 = .ok (.iload_n 3, 1) := by decide +kernel
theorem dX3_writeRuns_101 : decode cX3_writeRuns 101 = .ok (.iload 6, 2) := by decide +kernel
theorem dX3_writeRuns_103 : decode cX3_writeRuns 103 = .ok (.aload_n 1, 1) := by decide +kernel
theorem dX3_writeRuns_104 : decode cX3_writeRuns 104 = .ok (.invokestatic 93, 3) := by decide +kernel
theorem dX3_writeRuns_107 : decode cX3_writeRuns 107 = .ok (.iload 6, 2) := by decide +kernel
theorem dX3_writeRuns_109 : decode cX3_writeRuns 109 = .ok (.istore_n 3, 1) := by decide +kernel
theorem dX3_writeRuns_110 : decode cX3_writeRuns 110 = .ok (.iinc 4 1, 3) := by decide +kernel
theorem dX3_writeRuns_113 : decode cX3_writeRuns 113 = .ok (.goto (-103), 3) := by decide +kernel
theorem dX3_writeRuns_116 : decode cX3_writeRuns 116 = .ok (.return_, 1) := by decide +kernel
theorem dX3_runAt_0 : decode cX3_runAt 0 = .ok (.aload_n 0, 1) := by decide +kernel
theorem dX3_runAt_1 : decode cX3_runAt 1 = .ok (.invokevirtual 52, 3) := by decide +kernel
theorem dX3_runAt_4 : decode cX3_runAt 4 = .ok (.iload_n 1, 1) := by decide +kernel
theorem dX3_runAt_5 : decode cX3_runAt 5 = .ok (.iload_n 2, 1) := by decide +kernel
theorem dX3_runAt_6 : decode cX3_runAt 6 = .ok (.iadd, 1) := by decide +kernel
theorem dX3_runAt_7 : decode cX3_runAt 7 = .ok (.invokestatic 87, 3) := by decide +kernel
theorem dX3_runAt_10 : decode cX3_runAt 10 = .ok (.istore_n 3, 1) := by decide +kernel
theorem dX3_runAt_11 : decode cX3_runAt 11 = .ok (.iload_n 1, 1) := by decide +kernel
theorem dX3_runAt_12 : decode cX3_runAt 12 = .ok (.iconst 1, 1) := by decide +kernel
theorem dX3_runAt_13 : decode cX3_runAt 13 = .ok (.iadd, 1) := by decide +kernel
theorem dX3_runAt_14 : decode cX3_runAt 14 = .ok (.istore 4, 2) := by decide +kernel
theorem dX3_runAt_16 : decode cX3_runAt 16 = .ok (.iload 4, 2) := by decide +kernel
theorem dX3_runAt_18 : decode cX3_runAt 18 = .ok (.iload_n 3, 1) := by decide +kernel
theorem dX3_runAt_19 : decode cX3_runAt 19 = .ok (.if_icmp .ge 23, 3) := by decide +kernel
theorem dX3_runAt_22 : decode cX3_runAt 22 = .ok (.aload_n 0, 1) := by decide +kernel
theorem dX3_runAt_23 : decode cX3_runAt 23 = .ok (.iload 4, 2) := by decide +kernel
theorem dX3_runAt_25 : decode cX3_runAt 25 = .ok (.invokevirtual 75, 3) := by decide +kernel
theorem dX3_runAt_28 : decode cX3_runAt 28 = .ok (.aload_n 0, 1) := by decide +kernel
theorem dX3_runAt_29 : decode cX3_runAt 29 = .ok (.iload_n 1, 1) := by decide +kernel
theorem dX3_runAt_30 : decode cX3_runAt 30 = .ok (.invokevirtual 75, 3) := by decide +kernel
theorem dX3_runAt_33 : decode cX3_runAt 33 = .ok (.if_icmp .ne 9, 3) := by decide +kernel
theorem dX3_runAt_36 : decode cX3_runAt 36 = .ok (.iinc 4 1, 3) := by decide +kernel
theorem dX3_runAt_39 : decode cX3_runAt 39 = .ok (.goto (-23), 3) := by decide +kernel
theorem dX3_runAt_42 : decode cX3_runAt 42 = .ok (.iload 4, 2) := by decide +kernel
theorem dX3_runAt_44 : decode cX3_runAt 44 = .ok (.iload_n 1, 1) := by decide +kernel
theorem dX3_runAt_45 : decode cX3_runAt 45 = .ok (.isub, 1) := by decide +kernel
theorem dX3_runAt_46 : decode cX3_runAt 46 = .ok (.ireturn, 1) := by decide +kernel
theorem dX3_writeBits_0 : decode cX3_writeBits 0 = .ok (.aload_n 1, 1) := by decide +kernel
theorem dX3_writeBits_1 : decode cX3_writeBits 1 = .ok (.aload_n 0, 1) := by decide +kernel
theorem dX3_writeBits_2 : decode cX3_writeBits 2 = .ok (.getfield 9, 3) := by decide +kernel
theorem dX3_writeBits_5 : decode cX3_writeBits 5 = .ok (.invokevirtual 96, 3) := by decide +kernel
theorem dX3_writeBits_8 : decode cX3_writeBits 8 = .ok (.istore_n 3, 1) := by decide +kernel
theorem dX3_writeBits_9 : decode cX3_writeBits 9 = .ok (.aload_n 2, 1) := by decide +kernel
theorem dX3_writeBits_10 : decode cX3_writeBits 10 = .ok (.iload_n 3, 1) := by decide +kernel
theorem dX3_writeBits_11 : decode cX3_writeBits 11 = .ok (.iconst 1, 1) := by decide +kernel
theorem dX3_writeBits_12 : decode cX3_writeBits 12 = .ok (.isub, 1) := by decide +kernel
theorem dX3_writeBits_13 : decode cX3_writeBits 13 = .ok (.invokevirtual 79, 3) := by decide +kernel
theorem dX3_writeBits_16 : decode cX3_writeBits 16 = .ok (.iconst 0, 1) := by decide +kernel
theorem dX3_writeBits_17 : decode cX3_writeBits 17 = .ok (.istore 4, 2) := by decide +kernel
theorem dX3_writeBits_19 : decode cX3_writeBits 19 = .ok (.iconst 0, 1) := by decide +kernel
theorem dX3_writeBits_20 : decode cX3_writeBits 20 = .ok (.istore 5, 2) := by decide +kernel
theorem dX3_writeBits_22 : decode cX3_writeBits 22 = .ok (.iload 5, 2) := by decide +kernel
theorem dX3_writeBits_24 : decode cX3_writeBits 24 = .ok (.sipush 256, 3) := by decide +kernel
theorem dX3_writeBits_27 : decode cX3_writeBits 27 = .ok (.if_icmp .ge 37, 3) := by decide +kernel
theorem dX3_writeBits_30 : decode cX3_writeBits 30 = .ok (.aload_n 0, 1) := by decide +kernel
theorem dX3_writeBits_31 : decode cX3_writeBits 31 = .ok (.getfield 9, 3) := by decide +kernel
theorem dX3_writeBits_34 : decode cX3_writeBits 34 = .ok (.iload 5, 2) := by decide +kernel
theorem dX3_writeBits_36 : decode cX3_writeBits 36 = .ok (.iaload, 1) := by decide +kernel
theorem dX3_writeBits_37 : decode cX3_writeBits 37 = .ok (.ifCond .le 21, 3) := by decide +kernel
theorem dX3_writeBits_40 : decode cX3_writeBits 40 = .ok (.aload_n 2, 1) := by decide +kernel
theorem dX3_writeBits_41 : decode cX3_writeBits 41 = .ok (.iload 5, 2) := by decide +kernel
theorem dX3_writeBits_43 : decode cX3_writeBits 43 = .ok (.invokevirtual 79, 3) := by decide +kernel
theorem dX3_writeBits_46 : decode cX3_writeBits 46 = .ok (.aload_n 0, 1) := by decide +kernel
theorem dX3_writeBits_47 : decode cX3_writeBits 47 = .ok (.getfield 15, 3) := by decide +kernel
theorem dX3_writeBits_50 : decode cX3_writeBits 50 = .ok (.iload 5, 2) := by decide +kernel
theorem dX3_writeBits_52 : decode cX3_writeBits 52 = .ok (.iload 4, 2) := by decide +kernel
theorem dX3_writeBits_54 : decode cX3_writeBits 54 = .ok (.iastore, 1) := by decide +kernel
theorem dX3_writeBits_55 : decode cX3_writeBits 55 = .ok (.iinc 4 1, 3) := by decide +kernel
theorem dX3_writeBits_58 : decode cX3_writeBits 58 = .ok (.iinc 5 1, 3) := by decide +kernel
theorem dX3_writeBits_61 : decode cX3_writeBits 61 = .ok (.goto (-39), 3) := by decide +kernel
theorem dX3_writeBits_64 : decode cX3_writeBits 64 = .ok (.iload_n 3, 1) := by decide +kernel
theorem dX3_writeBits_65 : decode cX3_writeBits 65 = .ok (.iconst 1, 1) := by decide +kernel
theorem dX3_writeBits_66 : decode cX3_writeBits 66 = .ok (.isub, 1) := by decide +kernel
theorem dX3_writeBits_67 : decode cX3_writeBits 67 = .ok (.invokestatic 100, 3) := by decide +kernel
theorem dX3_writeBits_70 : decode cX3_writeBits 70 = .ok (.istore 5, 2) := by decide +kernel
theorem dX3_writeBits_72 : decode cX3_writeBits 72 = .ok (.iconst 0, 1) := by decide +kernel
theorem dX3_writeBits_73 : decode cX3_writeBits 73 = .ok (.istore 6, 2) := by decide +kernel
theorem dX3_writeBits_75 : decode cX3_writeBits 75 = .ok (.iload 6, 2) := by decide +kernel
theorem dX3_writeBits_77 : decode cX3_writeBits 77 = .ok (.aload_n 1, 1) := by decide +kernel
theorem dX3_writeBits_78 : decode cX3_writeBits 78 = .ok (.invokevirtual 52, 3) := by decide +kernel
theorem dX3_writeBits_81 : decode cX3_writeBits 81 = .ok (.if_icmp .ge 34, 3) := by decide +kernel
theorem dX3_writeBits_84 : decode cX3_writeBits 84 = .ok (.aload_n 0, 1) := by decide +kernel
theorem dX3_writeBits_85 : decode cX3_writeBits 85 = .ok (.getfield 27, 3) := by decide +kernel
theorem dX3_writeBits_88 : decode cX3_writeBits 88 = .ok (.aload_n 0, 1) := by decide +kernel
theorem dX3_writeBits_89 : decode cX3_writeBits 89 = .ok (.getfield 15, 3) := by decide +kernel
theorem dX3_writeBits_92 : decode cX3_writeBits 92 = .ok (.aload_n 1, 1) := by decide +kernel
theorem dX3_writeBits_93 : decode cX3_writeBits 93 = .ok (.iload 6, 2) := by decide +kernel
theorem dX3_writeBits_95 : decode cX3_writeBits 95 = .ok (.invokevirtual 75, 3) := by decide +kernel
theorem dX3_writeBits_98 : decode cX3_writeBits 98 = .ok (.sipush 255, 3) := by decide +kernel
theorem dX3_writeBits_101 : decode cX3_writeBits 101 = .ok (.iand, 1) := by decide +kernel
theorem dX3_writeBits_102 : decode cX3_writeBits 102 = .ok (.iaload, 1) := by decide +kernel
theorem dX3_writeBits_103 : decode cX3_writeBits 103 = .ok (.iload 5, 2) := by decide +kernel
theorem dX3_writeBits_105 : decode cX3_writeBits 105 = .ok (.aload_n 2, 1) := by decide +kernel
theorem dX3_writeBits_106 : decode cX3_writeBits 106 = .ok (.invokevirtual 103, 3) := by decide +kernel
theorem dX3_writeBits_109 : decode cX3_writeBits 109 = .ok (.iinc 6 1, 3) := by decide +kernel
theorem dX3_writeBits_112 : decode cX3_writeBits 112 = .ok (.goto (-37), 3) := by decide +kernel
theorem dX3_writeBits_115 : decode cX3_writeBits 115 = .ok (.aload_n 0, 1) := by decide +kernel
theorem dX3_writeBits_116 : decode cX3_writeBits 116 = .ok (.getfield 27, 3) := by decide +kernel
theorem dX3_writeBits_119 : decode cX3_writeBits 119 = .ok (.aload_n 2, 1) := by decide +kernel
theorem dX3_writeBits_120 : decode cX3_writeBits 120 = .ok (.invokevirtual 107, 3) := by decide +kernel
theorem dX3_writeBits_123 : decode cX3_writeBits 123 = .ok (.return_, 1) := by decide +kernel
theorem dX3_widthOf_0 : decode cX3_widthOf 0 = .ok (.iconst 0, 1) := by decide +kernel
theorem dX3_widthOf_1 : decode cX3_widthOf 1 = .ok (.istore_n 1, 1) := by decide +kernel
theorem dX3_widthOf_2 : decode cX3_widthOf 2 = .ok (.iload_n 1, 1) := by decide +kernel
theorem dX3_widthOf_3 : decode cX3_widthOf 3 = .ok (.bipush 8, 2) := by decide +kernel
theorem dX3_widthOf_5 : decode cX3_widthOf 5 = .ok (.if_icmp .ge 15, 3) := by decide +kernel
theorem dX3_widthOf_8 : decode cX3_widthOf 8 = .ok (.iload_n 0, 1) := by decide +kernel
theorem dX3_widthOf_9 : decode cX3_widthOf 9 = .ok (.iload_n 1, 1) := by decide +kernel
theorem dX3_widthOf_10 : decode cX3_widthOf 10 = .ok (.ishr, 1) := by decide +kernel
theorem dX3_widthOf_11 : decode cX3_widthOf 11 = .ok (.ifCond .le 9, 3) := by decide +kernel
theorem dX3_widthOf_14 : decode cX3_widthOf 14 = .ok (.iinc 1 1, 3) := by decide +kernel
theorem dX3_widthOf_17 : decode cX3_widthOf 17 = .ok (.goto (-15), 3) := by decide +kernel
theorem dX3_widthOf_20 : decode cX3_widthOf 20 = .ok (.iload_n 1, 1) := by decide +kernel
theorem dX3_widthOf_21 : decode cX3_widthOf 21 = .ok (.ireturn, 1) := by decide +kernel
theorem dX3_writePrefix_0 : decode cX3_writePrefix 0 = .ok (.aload_n 2, 1) := by decide +kernel
theorem dX3_writePrefix_1 : decode cX3_writePrefix 1 = .ok (.aload_n 1, 1) := by decide +kernel
theorem dX3_writePrefix_2 : decode cX3_writePrefix 2 = .ok (.aload_n 0, 1) := by decide +kernel
theorem dX3_writePrefix_3 : decode cX3_writePrefix 3 = .ok (.getfield 9, 3) := by decide +kernel
theorem dX3_writePrefix_6 : decode cX3_writePrefix 6 = .ok (.invokevirtual 96, 3) := by decide +kernel
theorem dX3_writePrefix_9 : decode cX3_writePrefix 9 = .ok (.iconst 1, 1) := by decide +kernel
theorem dX3_writePrefix_10 : decode cX3_writePrefix 10 = .ok (.isub, 1) := by decide +kernel
theorem dX3_writePrefix_11 : decode cX3_writePrefix 11 = .ok (.invokevirtual 79, 3) := by decide +kernel
theorem dX3_writePrefix_14 : decode cX3_writePrefix 14 = .ok (.aload_n 0, 1) := by decide +kernel
theorem dX3_writePrefix_15 : decode cX3_writePrefix 15 = .ok (.getfield 34, 3) := by decide +kernel
theorem dX3_writePrefix_18 : decode cX3_writePrefix 18 = .ok (.aload_n 0, 1) := by decide +kernel
theorem dX3_writePrefix_19 : decode cX3_writePrefix 19 = .ok (.getfield 9, 3) := by decide +kernel
theorem dX3_writePrefix_22 : decode cX3_writePrefix 22 = .ok (.aload_n 0, 1) := by decide +kernel
theorem dX3_writePrefix_23 : decode cX3_writePrefix 23 = .ok (.getfield 41, 3) := by decide +kernel
theorem dX3_writePrefix_26 : decode cX3_writePrefix 26 = .ok (.invokevirtual 111, 3) := by decide +kernel
theorem dX3_writePrefix_29 : decode cX3_writePrefix 29 = .ok (.aload_n 0, 1) := by decide +kernel
theorem dX3_writePrefix_30 : decode cX3_writePrefix 30 = .ok (.getfield 41, 3) := by decide +kernel
theorem dX3_writePrefix_33 : decode cX3_writePrefix 33 = .ok (.invokevirtual 115, 3) := by decide +kernel
theorem dX3_writePrefix_36 : decode cX3_writePrefix 36 = .ok (.iconst 0, 1) := by decide +kernel
theorem dX3_writePrefix_37 : decode cX3_writePrefix 37 = .ok (.istore_n 3, 1) := by decide +kernel
theorem dX3_writePrefix_38 : decode cX3_writePrefix 38 = .ok (.iload_n 3, 1) := by decide +kernel
theorem dX3_writePrefix_39 : decode cX3_writePrefix 39 = .ok (.sipush 256, 3) := by decide +kernel
theorem dX3_writePrefix_42 : decode cX3_writePrefix 42 = .ok (.if_icmp .ge 35, 3) := by decide +kernel
theorem dX3_writePrefix_45 : decode cX3_writePrefix 45 = .ok (.aload_n 0, 1) := by decide +kernel
theorem dX3_writePrefix_46 : decode cX3_writePrefix 46 = .ok (.getfield 9, 3) := by decide +kernel
theorem dX3_writePrefix_49 : decode cX3_writePrefix 49 = .ok (.iload_n 3, 1) := by decide +kernel
theorem dX3_writePrefix_50 : decode cX3_writePrefix 50 = .ok (.iaload, 1) := by decide +kernel
theorem dX3_writePrefix_51 : decode cX3_writePrefix 51 = .ok (.ifCond .le 20, 3) := by decide +kernel
theorem dX3_writePrefix_54 : decode cX3_writePrefix 54 = .ok (.aload_n 2, 1) := by decide +kernel
theorem dX3_writePrefix_55 : decode cX3_writePrefix 55 = .ok (.iload_n 3, 1) := by decide +kernel
theorem dX3_writePrefix_56 : decode cX3_writePrefix 56 = .ok (.invokevirtual 79, 3) := by decide +kernel
theorem dX3_writePrefix_59 : decode cX3_writePrefix 59 = .ok (.aload_n 2, 1) := by decide +kernel
theorem dX3_writePrefix_60 : decode cX3_writePrefix 60 = .ok (.aload_n 0, 1) := by decide +kernel
theorem dX3_writePrefix_61 : decode cX3_writePrefix 61 = .ok (.getfield 41, 3) := by decide +kernel
theorem dX3_writePrefix_64 : decode cX3_writePrefix 64 = .ok (.iload_n 3, 1) := by decide +kernel
theorem dX3_writePrefix_65 : decode cX3_writePrefix 65 = .ok (.invokevirtual 118, 3) := by decide +kernel
theorem dX3_writePrefix_68 : decode cX3_writePrefix 68 = .ok (.invokevirtual 79, 3) := by decide +kernel
theorem dX3_writePrefix_71 : decode cX3_writePrefix 71 = .ok (.iinc 3 1, 3) := by decide +kernel
theorem dX3_writePrefix_74 : decode cX3_writePrefix 74 = .ok (.goto (-36), 3) := by decide +kernel
theorem dX3_writePrefix_77 : decode cX3_writePrefix 77 = .ok (.iconst 0, 1) := by decide +kernel
theorem dX3_writePrefix_78 : decode cX3_writePrefix 78 = .ok (.istore_n 3, 1) := by decide +kernel
theorem dX3_writePrefix_79 : decode cX3_writePrefix 79 = .ok (.iload_n 3, 1) := by decide +kernel
theorem dX3_writePrefix_80 : decode cX3_writePrefix 80 = .ok (.aload_n 1, 1) := by decide +kernel
theorem dX3_writePrefix_81 : decode cX3_writePrefix 81 = .ok (.invokevirtual 52, 3) := by decide +kernel
theorem dX3_writePrefix_84 : decode cX3_writePrefix 84 = .ok (.if_icmp .ge 42, 3) := by decide +kernel
theorem dX3_writePrefix_87 : decode cX3_writePrefix 87 = .ok (.aload_n 1, 1) := by decide +kernel
theorem dX3_writePrefix_88 : decode cX3_writePrefix 88 = .ok (.iload_n 3, 1) := by decide +kernel
theorem dX3_writePrefix_89 : decode cX3_writePrefix 89 = .ok (.invokevirtual 75, 3) := by decide +kernel
theorem dX3_writePrefix_92 : decode cX3_writePrefix 92 = .ok (.istore 4, 2) := by decide +kernel
theorem dX3_writePrefix_94 : decode cX3_writePrefix 94 = .ok (.aload_n 0, 1) := by decide +kernel
theorem dX3_writePrefix_95 : decode cX3_writePrefix 95 = .ok (.getfield 27, 3) := by decide +kernel
theorem dX3_writePrefix_98 : decode cX3_writePrefix 98 = .ok (.aload_n 0, 1) := by decide +kernel
theorem dX3_writePrefix_99 : decode cX3_writePrefix 99 = .ok (.getfield 41, 3) := by decide +kernel
theorem dX3_writePrefix_102 : decode cX3_writePrefix 102 = .ok (.iload 4, 2) := by decide +kernel
theorem dX3_writePrefix_104 : decode cX3_writePrefix 104 = .ok (.invokevirtual 121, 3) := by decide +kernel
theorem dX3_writePrefix_107 : decode cX3_writePrefix 107 = .ok (.aload_n 0, 1) := by decide +kernel
theorem dX3_writePrefix_108 : decode cX3_writePrefix 108 = .ok (.getfield 41, 3) := by decide +kernel
theorem dX3_writePrefix_111 : decode cX3_writePrefix 111 = .ok (.iload 4, 2) := by decide +kernel
theorem dX3_writePrefix_113 : decode cX3_writePrefix 113 = .ok (.invokevirtual 118, 3) := by decide +kernel
theorem dX3_writePrefix_116 : decode cX3_writePrefix 116 = .ok (.aload_n 2, 1) := by decide +kernel
theorem dX3_writePrefix_117 : decode cX3_writePrefix 117 = .ok (.invokevirtual 103, 3) := by decide +kernel
theorem dX3_writePrefix_120 : decode cX3_writePrefix 120 = .ok (.iinc 3 1, 3) := by decide +kernel
theorem dX3_writePrefix_123 : decode cX3_writePrefix 123 = .ok (.goto (-44), 3) := by decide +kernel
theorem dX3_writePrefix_126 : decode cX3_writePrefix 126 = .ok (.aload_n 0, 1) := by decide +kernel
theorem dX3_writePrefix_127 : decode cX3_writePrefix 127 = .ok (.getfield 27, 3) := by decide +kernel
theorem dX3_writePrefix_130 : decode cX3_writePrefix 130 = .ok (.aload_n 2, 1) := by decide +kernel
theorem dX3_writePrefix_131 : decode cX3_writePrefix 131 = .ok (.invokevirtual 107, 3) := by decide +kernel
theorem dX3_writePrefix_134 : decode cX3_writePrefix 134 = .ok (.return_, 1) := by decide +kernel
theorem dX3_writeMatches_0 : decode cX3_writeMatches 0 = .ok (.aload_n 0, 1) := by decide +kernel
theorem dX3_writeMatches_1 : decode cX3_writeMatches 1 = .ok (.aload_n 1, 1) := by decide +kernel
theorem dX3_writeMatches_2 : decode cX3_writeMatches 2 = .ok (.invokevirtual 124, 3) := by decide +kernel
theorem dX3_writeMatches_5 : decode cX3_writeMatches 5 = .ok (.aload_n 1, 1) := by decide +kernel
theorem dX3_writeMatches_6 : decode cX3_writeMatches 6 = .ok (.invokevirtual 52, 3) := by decide +kernel
theorem dX3_writeMatches_9 : decode cX3_writeMatches 9 = .ok (.istore_n 3, 1) := by decide +kernel
theorem dX3_writeMatches_10 : decode cX3_writeMatches 10 = .ok (.iconst 0, 1) := by decide +kernel
theorem dX3_writeMatches_11 : decode cX3_writeMatches 11 = .ok (.istore 4, 2) := by decide +kernel
theorem dX3_writeMatches_13 : decode cX3_writeMatches 13 = .ok (.iconst 0, 1) := by decide +kernel
theorem dX3_writeMatches_14 : decode cX3_writeMatches 14 = .ok (.istore 5, 2) := by decide +kernel
theorem dX3_writeMatches_16 : decode cX3_writeMatches 16 = .ok (.iload 5, 2) := by decide +kernel
theorem dX3_writeMatches_18 : decode cX3_writeMatches 18 = .ok (.iload_n 3, 1) := by decide +kernel
theorem dX3_writeMatches_19 : decode cX3_writeMatches 19 = .ok (.if_icmp .ge 87, 3) := by decide +kernel
theorem dX3_writeMatches_22 : decode cX3_writeMatches 22 = .ok (.iload 4, 2) := by decide +kernel
theorem dX3_writeMatches_24 : decode cX3_writeMatches 24 = .ok (.iload_n 3, 1) := by decide +kernel
theorem dX3_writeMatches_25 : decode cX3_writeMatches 25 = .ok (.if_icmp .ge 81, 3) := by decide +kernel
theorem dX3_writeMatches_28 : decode cX3_writeMatches 28 = .ok (.aload_n 0, 1) := by decide +kernel
theorem dX3_writeMatches_29 : decode cX3_writeMatches 29 = .ok (.aload_n 1, 1) := by decide +kernel
theorem dX3_writeMatches_30 : decode cX3_writeMatches 30 = .ok (.iload 4, 2) := by decide +kernel
theorem dX3_writeMatches_32 : decode cX3_writeMatches 32 = .ok (.invokevirtual 127, 3) := by decide +kernel
theorem dX3_writeMatches_35 : decode cX3_writeMatches 35 = .ok (.iload 4, 2) := by decide +kernel
theorem dX3_writeMatches_37 : decode cX3_writeMatches 37 = .ok (.aload_n 0, 1) := by decide +kernel
theorem dX3_writeMatches_38 : decode cX3_writeMatches 38 = .ok (.getfield 45, 3) := by decide +kernel
theorem dX3_writeMatches_41 : decode cX3_writeMatches 41 = .ok (.iconst 1, 1) := by decide +kernel
theorem dX3_writeMatches_42 : decode cX3_writeMatches 42 = .ok (.invokestatic 131, 3) := by decide +kernel
theorem dX3_writeMatches_45 : decode cX3_writeMatches 45 = .ok (.iadd, 1) := by decide +kernel
theorem dX3_writeMatches_46 : decode cX3_writeMatches 46 = .ok (.istore 6, 2) := by decide +kernel
theorem dX3_writeMatches_48 : decode cX3_writeMatches 48 = .ok (.aload_n 0, 1) := by decide +kernel
theorem dX3_writeMatches_49 : decode cX3_writeMatches 49 = .ok (.getfield 45, 3) := by decide +kernel
theorem dX3_writeMatches_52 : decode cX3_writeMatches 52 = .ok (.iconst 3, 1) := by decide +kernel
theorem dX3_writeMatches_53 : decode cX3_writeMatches 53 = .ok (.if_icmp .lt 25, 3) := by decide +kernel
theorem dX3_writeMatches_56 : decode cX3_writeMatches 56 = .ok (.aload_n 2, 1) := by decide +kernel
theorem dX3_writeMatches_57 : decode cX3_writeMatches 57 = .ok (.aload_n 0, 1) := by decide +kernel
theorem dX3_writeMatches_58 : decode cX3_writeMatches 58 = .ok (.getfield 45, 3) := by decide +kernel
theorem dX3_writeMatches_61 : decode cX3_writeMatches 61 = .ok (.bipush 125, 2) := by decide +kernel
theorem dX3_writeMatches_63 : decode cX3_writeMatches 63 = .ok (.iadd, 1) := by decide +kernel
theorem dX3_writeMatches_64 : decode cX3_writeMatches 64 = .ok (.invokevirtual 79, 3) := by decide +kernel
theorem dX3_writeMatches_67 : decode cX3_writeMatches 67 = .ok (.aload_n 2, 1) := by decide +kernel
theorem dX3_writeMatches_68 : decode cX3_writeMatches 68 = .ok (.aload_n 0, 1) := by decide +kernel
theorem dX3_writeMatches_69 : decode cX3_writeMatches 69 = .ok (.getfield 49, 3) := by decide +kernel
theorem dX3_writeMatches_72 : decode cX3_writeMatches 72 = .ok (.invokevirtual 79, 3) := by decide +kernel
theorem dX3_writeMatches_75 : decode cX3_writeMatches 75 = .ok (.goto 21, 3) := by decide +kernel
theorem dX3_writeMatches_78 : decode cX3_writeMatches 78 = .ok (.aload_n 0, 1) := by decide +kernel
theorem dX3_writeMatches_79 : decode cX3_writeMatches 79 = .ok (.aload_n 1, 1) := by decide +kernel
theorem dX3_writeMatches_80 : decode cX3_writeMatches 80 = .ok (.iload 4, 2) := by decide +kernel
theorem dX3_writeMatches_82 : decode cX3_writeMatches 82 = .ok (.invokevirtual 134, 3) := by decide +kernel
theorem dX3_writeMatches_85 : decode cX3_writeMatches 85 = .ok (.istore 6, 2) := by decide +kernel
theorem dX3_writeMatches_87 : decode cX3_writeMatches 87 = .ok (.aload_n 1, 1) := by decide +kernel
theorem dX3_writeMatches_88 : decode cX3_writeMatches 88 = .ok (.iload 4, 2) := by decide +kernel
theorem dX3_writeMatches_90 : decode cX3_writeMatches 90 = .ok (.iload 6, 2) := by decide +kernel
theorem dX3_writeMatches_92 : decode cX3_writeMatches 92 = .ok (.aload_n 2, 1) := by decide +kernel
theorem dX3_writeMatches_93 : decode cX3_writeMatches 93 = .ok (.invokestatic 93, 3) := by decide +kernel
theorem dX3_writeMatches_96 : decode cX3_writeMatches 96 = .ok (.iload 6, 2) := by decide +kernel
theorem dX3_writeMatches_98 : decode cX3_writeMatches 98 = .ok (.istore 4, 2) := by decide +kernel
theorem dX3_writeMatches_100 : decode cX3_writeMatches 100 = .ok (.iinc 5 1, 3) := by decide +kernel
theorem dX3_writeMatches_103 : decode cX3_writeMatches 103 = .ok (.goto (-87), 3) := by decide +kernel
theorem dX3_writeMatches_106 : decode cX3_writeMatches 106 = .ok (.return_, 1) := by decide +kernel
theorem dX3_endOfPlain_0 : decode cX3_endOfPlain 0 = .ok (.aload_n 1, 1) := by decide +kernel
theorem dX3_endOfPlain_1 : decode cX3_endOfPlain 1 = .ok (.invokevirtual 52, 3) := by decide +kernel
theorem dX3_endOfPlain_4 : decode cX3_endOfPlain 4 = .ok (.iload_n 2, 1) := by decide +kernel
theorem dX3_endOfPlain_5 : decode cX3_endOfPlain 5 = .ok (.sipush 128, 3) := by decide +kernel
theorem dX3_endOfPlain_8 : decode cX3_endOfPlain 8 = .ok (.iadd, 1) := by decide +kernel
theorem dX3_endOfPlain_9 : decode cX3_endOfPlain 9 = .ok (.invokestatic 87, 3) := by decide +kernel
theorem dX3_endOfPlain_12 : decode cX3_endOfPlain 12 = .ok (.istore_n 3, 1) := by decide +kernel
theorem dX3_endOfPlain_13 : decode cX3_endOfPlain 13 = .ok (.iload_n 2, 1) := by decide +kernel
theorem dX3_endOfPlain_14 : decode cX3_endOfPlain 14 = .ok (.iconst 1, 1) := by decide +kernel
theorem dX3_endOfPlain_15 : decode cX3_endOfPlain 15 = .ok (.iadd, 1) := by decide +kernel
theorem dX3_endOfPlain_16 : decode cX3_endOfPlain 16 = .ok (.istore 4, 2) := by decide +kernel
theorem dX3_endOfPlain_18 : decode cX3_endOfPlain 18 = .ok (.iload 4, 2) := by decide +kernel
theorem dX3_endOfPlain_20 : decode cX3_endOfPlain 20 = .ok (.iload_n 3, 1) := by decide +kernel
theorem dX3_endOfPlain_21 : decode cX3_endOfPlain 21 = .ok (.if_icmp .ge 27, 3) := by decide +kernel
theorem dX3_endOfPlain_24 : decode cX3_endOfPlain 24 = .ok (.aload_n 0, 1) := by decide +kernel
theorem dX3_endOfPlain_25 : decode cX3_endOfPlain 25 = .ok (.aload_n 1, 1) := by decide +kernel
theorem dX3_endOfPlain_26 : decode cX3_endOfPlain 26 = .ok (.iload 4, 2) := by decide +kernel
theorem dX3_endOfPlain_28 : decode cX3_endOfPlain 28 = .ok (.invokevirtual 127, 3) := by decide +kernel
theorem dX3_endOfPlain_31 : decode cX3_endOfPlain 31 = .ok (.aload_n 0, 1) := by decide +kernel
theorem dX3_endOfPlain_32 : decode cX3_endOfPlain 32 = .ok (.getfield 45, 3) := by decide +kernel
theorem dX3_endOfPlain_35 : decode cX3_endOfPlain 35 = .ok (.iconst 3, 1) := by decide +kernel
theorem dX3_endOfPlain_36 : decode cX3_endOfPlain 36 = .ok (.if_icmp .lt 6, 3) := by decide +kernel
theorem dX3_endOfPlain_39 : decode cX3_endOfPlain 39 = .ok (.goto 9, 3) := by decide +kernel
theorem dX3_endOfPlain_42 : decode cX3_endOfPlain 42 = .ok (.iinc 4 1, 3) := by decide +kernel
theorem dX3_endOfPlain_45 : decode cX3_endOfPlain 45 = .ok (.goto (-27), 3) := by decide +kernel
theorem dX3_endOfPlain_48 : decode cX3_endOfPlain 48 = .ok (.iload 4, 2) := by decide +kernel
theorem dX3_endOfPlain_50 : decode cX3_endOfPlain 50 = .ok (.ireturn, 1) := by decide +kernel
theorem dX3_linkLikeBytes_0 : decode cX3_linkLikeBytes 0 = .ok (.aload_n 0, 1) := by decide +kernel
theorem dX3_linkLikeBytes_1 : decode cX3_linkLikeBytes 1 = .ok (.getfield 18, 3) := by decide +kernel
theorem dX3_linkLikeBytes_4 : decode cX3_linkLikeBytes 4 = .ok (.iconst (-1), 1) := by decide +kernel
theorem dX3_linkLikeBytes_5 : decode cX3_linkLikeBytes 5 = .ok (.invokestatic 138, 3) := by decide +kernel
theorem dX3_linkLikeBytes_8 : decode cX3_linkLikeBytes 8 = .ok (.iconst 0, 1) := by decide +kernel
theorem dX3_linkLikeBytes_9 : decode cX3_linkLikeBytes 9 = .ok (.istore_n 2, 1) := by decide +kernel
theorem dX3_linkLikeBytes_10 : decode cX3_linkLikeBytes 10 = .ok (.iload_n 2, 1) := by decide +kernel
theorem dX3_linkLikeBytes_11 : decode cX3_linkLikeBytes 11 = .ok (.aload_n 1, 1) := by decide +kernel
theorem dX3_linkLikeBytes_12 : decode cX3_linkLikeBytes 12 = .ok (.invokevirtual 52, 3) := by decide +kernel
theorem dX3_linkLikeBytes_15 : decode cX3_linkLikeBytes 15 = .ok (.if_icmp .ge 47, 3) := by decide +kernel
theorem dX3_linkLikeBytes_18 : decode cX3_linkLikeBytes 18 = .ok (.iload_n 2, 1) := by decide +kernel
theorem dX3_linkLikeBytes_19 : decode cX3_linkLikeBytes 19 = .ok (.aload_n 0, 1) := by decide +kernel
theorem dX3_linkLikeBytes_20 : decode cX3_linkLikeBytes 20 = .ok (.getfield 21, 3) := by decide +kernel
theorem dX3_linkLikeBytes_23 : decode cX3_linkLikeBytes 23 = .ok (.arraylength, 1) := by decide +kernel
theorem dX3_linkLikeBytes_24 : decode cX3_linkLikeBytes 24 = .ok (.if_icmp .ge 38, 3) := by decide +kernel
theorem dX3_linkLikeBytes_27 : decode cX3_linkLikeBytes 27 = .ok (.aload_n 1, 1) := by decide +kernel
theorem dX3_linkLikeBytes_28 : decode cX3_linkLikeBytes 28 = .ok (.iload_n 2, 1) := by decide +kernel
theorem dX3_linkLikeBytes_29 : decode cX3_linkLikeBytes 29 = .ok (.invokevirtual 75, 3) := by decide +kernel
theorem dX3_linkLikeBytes_32 : decode cX3_linkLikeBytes 32 = .ok (.sipush 255, 3) := by decide +kernel
theorem dX3_linkLikeBytes_35 : decode cX3_linkLikeBytes 35 = .ok (.iand, 1) := by decide +kernel
theorem dX3_linkLikeBytes_36 : decode cX3_linkLikeBytes 36 = .ok (.istore_n 3, 1) := by decide +kernel
theorem dX3_linkLikeBytes_37 : decode cX3_linkLikeBytes 37 = .ok (.aload_n 0, 1) := by decide +kernel
theorem dX3_linkLikeBytes_38 : decode cX3_linkLikeBytes 38 = .ok (.getfield 21, 3) := by decide +kernel
theorem dX3_linkLikeBytes_41 : decode cX3_linkLikeBytes 41 = .ok (.iload_n 2, 1) := by decide +kernel
theorem dX3_linkLikeBytes_42 : decode cX3_linkLikeBytes 42 = .ok (.aload_n 0, 1) := by decide +kernel
theorem dX3_linkLikeBytes_43 : decode cX3_linkLikeBytes 43 = .ok (.getfield 18, 3) := by decide +kernel
theorem dX3_linkLikeBytes_46 : decode cX3_linkLikeBytes 46 = .ok (.iload_n 3, 1) := by decide +kernel
theorem dX3_linkLikeBytes_47 : decode cX3_linkLikeBytes 47 = .ok (.iaload, 1) := by decide +kernel
theorem dX3_linkLikeBytes_48 : decode cX3_linkLikeBytes 48 = .ok (.iastore, 1) := by decide +kernel
theorem dX3_linkLikeBytes_49 : decode cX3_linkLikeBytes 49 = .ok (.aload_n 0, 1) := by decide +kernel
theorem dX3_linkLikeBytes_50 : decode cX3_linkLikeBytes 50 = .ok (.getfield 18, 3) := by decide +kernel
theorem dX3_linkLikeBytes_53 : decode cX3_linkLikeBytes 53 = .ok (.iload_n 3, 1) := by decide +kernel
theorem dX3_linkLikeBytes_54 : decode cX3_linkLikeBytes 54 = .ok (.iload_n 2, 1) := by decide +kernel
theorem dX3_linkLikeBytes_55 : decode cX3_linkLikeBytes 55 = .ok (.iastore, 1) := by decide +kernel
theorem dX3_linkLikeBytes_56 : decode cX3_linkLikeBytes 56 = .ok (.iinc 2 1, 3) := by decide +kernel
theorem dX3_linkLikeBytes_59 : decode cX3_linkLikeBytes 59 = .ok (.goto (-49), 3) := by decide +kernel
theorem dX3_linkLikeBytes_62 : decode cX3_linkLikeBytes 62 = .ok (.return_, 1) := by decide +kernel
theorem dX3_before_0 : decode cX3_before 0 = .ok (.iload_n 1, 1) := by decide +kernel
theorem dX3_before_1 : decode cX3_before 1 = .ok (.ifCond .lt 21, 3) := by decide +kernel
theorem dX3_before_4 : decode cX3_before 4 = .ok (.iload_n 1, 1) := by decide +kernel
theorem dX3_before_5 : decode cX3_before 5 = .ok (.aload_n 0, 1) := by decide +kernel
theorem dX3_before_6 : decode cX3_before 6 = .ok (.getfield 21, 3) := by decide +kernel
theorem dX3_before_9 : decode cX3_before 9 = .ok (.arraylength, 1) := by decide +kernel
theorem dX3_before_10 : decode cX3_before 10 = .ok (.if_icmp .ge 12, 3) := by decide +kernel
theorem dX3_before_13 : decode cX3_before 13 = .ok (.aload_n 0, 1) := by decide +kernel
theorem dX3_before_14 : decode cX3_before 14 = .ok (.getfield 21, 3) := by decide +kernel
theorem dX3_before_17 : decode cX3_before 17 = .ok (.iload_n 1, 1) := by decide +kernel
theorem dX3_before_18 : decode cX3_before 18 = .ok (.iaload, 1) := by decide +kernel
theorem dX3_before_19 : decode cX3_before 19 = .ok (.goto 4, 3) := by decide +kernel
theorem dX3_before_22 : decode cX3_before 22 = .ok (.iconst (-1), 1) := by decide +kernel
theorem dX3_before_23 : decode cX3_before 23 = .ok (.ireturn, 1) := by decide +kernel
theorem dX3_findMatch_0 : decode cX3_findMatch 0 = .ok (.sipush 130, 3) := by decide +kernel
theorem dX3_findMatch_3 : decode cX3_findMatch 3 = .ok (.aload_n 1, 1) := by decide +kernel
theorem dX3_findMatch_4 : decode cX3_findMatch 4 = .ok (.invokevirtual 52, 3) := by decide +kernel
theorem dX3_findMatch_7 : decode cX3_findMatch 7 = .ok (.iload_n 2, 1) := by decide +kernel
theorem dX3_findMatch_8 : decode cX3_findMatch 8 = .ok (.isub, 1) := by decide +kernel
theorem dX3_findMatch_9 : decode cX3_findMatch 9 = .ok (.invokestatic 87, 3) := by decide +kernel
theorem dX3_findMatch_12 : decode cX3_findMatch 12 = .ok (.istore_n 3, 1) := by decide +kernel
theorem dX3_findMatch_13 : decode cX3_findMatch 13 = .ok (.aload_n 0, 1) := by decide +kernel
theorem dX3_findMatch_14 : decode cX3_findMatch 14 = .ok (.iconst 0, 1) := by decide +kernel
theorem dX3_findMatch_15 : decode cX3_findMatch 15 = .ok (.putfield 45, 3) := by decide +kernel
theorem dX3_findMatch_18 : decode cX3_findMatch 18 = .ok (.aload_n 0, 1) := by decide +kernel
theorem dX3_findMatch_19 : decode cX3_findMatch 19 = .ok (.iconst 0, 1) := by decide +kernel
theorem dX3_findMatch_20 : decode cX3_findMatch 20 = .ok (.putfield 49, 3) := by decide +kernel
theorem dX3_findMatch_23 : decode cX3_findMatch 23 = .ok (.aload_n 0, 1) := by decide +kernel
theorem dX3_findMatch_24 : decode cX3_findMatch 24 = .ok (.iload_n 2, 1) := by decide +kernel
theorem dX3_findMatch_25 : decode cX3_findMatch 25 = .ok (.invokevirtual 144, 3) := by decide +kernel
theorem dX3_findMatch_28 : decode cX3_findMatch 28 = .ok (.istore 4, 2) := by decide +kernel
theorem dX3_findMatch_30 : decode cX3_findMatch 30 = .ok (.iconst 0, 1) := by decide +kernel
theorem dX3_findMatch_31 : decode cX3_findMatch 31 = .ok (.istore 5, 2) := by decide +kernel
theorem dX3_findMatch_33 : decode cX3_findMatch 33 = .ok (.iload 5, 2) := by decide +kernel
theorem dX3_findMatch_35 : decode cX3_findMatch 35 = .ok (.sipush 255, 3) := by decide +kernel
theorem dX3_findMatch_38 : decode cX3_findMatch 38 = .ok (.if_icmp .ge 107, 3) := by decide +kernel
theorem dX3_findMatch_41 : decode cX3_findMatch 41 = .ok (.aload_n 0, 1) := by decide +kernel
theorem dX3_findMatch_42 : decode cX3_findMatch 42 = .ok (.getfield 45, 3) := by decide +kernel
theorem dX3_findMatch_45 : decode cX3_findMatch 45 = .ok (.iload_n 3, 1) := by decide +kernel
theorem dX3_findMatch_46 : decode cX3_findMatch 46 = .ok (.if_icmp .ge 99, 3) := by decide +kernel
theorem dX3_findMatch_49 : decode cX3_findMatch 49 = .ok (.iload 4, 2) := by decide +kernel
theorem dX3_findMatch_51 : decode cX3_findMatch 51 = .ok (.ifCond .lt 94, 3) := by decide +kernel
theorem dX3_findMatch_54 : decode cX3_findMatch 54 = .ok (.iload_n 2, 1) := by decide +kernel
theorem dX3_findMatch_55 : decode cX3_findMatch 55 = .ok (.iload 4, 2) := by decide +kernel
theorem dX3_findMatch_57 : decode cX3_findMatch 57 = .ok (.isub, 1) := by decide +kernel
theorem dX3_findMatch_58 : decode cX3_findMatch 58 = .ok (.sipush 255, 3) := by decide +kernel
theorem dX3_findMatch_61 : decode cX3_findMatch 61 = .ok (.if_icmp .le 6, 3) := by decide +kernel
theorem dX3_findMatch_64 : decode cX3_findMatch 64 = .ok (.goto 81, 3) := by decide +kernel
theorem dX3_findMatch_67 : decode cX3_findMatch 67 = .ok (.iconst 1, 1) := by decide +kernel
theorem dX3_findMatch_68 : decode cX3_findMatch 68 = .ok (.istore 6, 2) := by decide +kernel
theorem dX3_findMatch_70 : decode cX3_findMatch 70 = .ok (.iload 6, 2) := by decide +kernel
theorem dX3_findMatch_72 : decode cX3_findMatch 72 = .ok (.iload_n 3, 1) := by decide +kernel
theorem dX3_findMatch_73 : decode cX3_findMatch 73 = .ok (.if_icmp .ge 29, 3) := by decide +kernel
theorem dX3_findMatch_76 : decode cX3_findMatch 76 = .ok (.aload_n 1, 1) := by decide +kernel
theorem dX3_findMatch_77 : decode cX3_findMatch 77 = .ok (.iload 4, 2) := by decide +kernel
theorem dX3_findMatch_79 : decode cX3_findMatch 79 = .ok (.iload 6, 2) := by decide +kernel
theorem dX3_findMatch_81 : decode cX3_findMatch 81 = .ok (.iadd, 1) := by decide +kernel
theorem dX3_findMatch_82 : decode cX3_findMatch 82 = .ok (.invokevirtual 75, 3) := by decide +kernel
theorem dX3_findMatch_85 : decode cX3_findMatch 85 = .ok (.aload_n 1, 1) := by decide +kernel
theorem dX3_findMatch_86 : decode cX3_findMatch 86 = .ok (.iload_n 2, 1) := by decide +kernel
theorem dX3_findMatch_87 : decode cX3_findMatch 87 = .ok (.iload 6, 2) := by decide +kernel
theorem dX3_findMatch_89 : decode cX3_findMatch 89 = .ok (.iadd, 1) := by decide +kernel
theorem dX3_findMatch_90 : decode cX3_findMatch 90 = .ok (.invokevirtual 75, 3) := by decide +kernel
theorem dX3_findMatch_93 : decode cX3_findMatch 93 = .ok (.if_icmp .ne 9, 3) := by decide +kernel
theorem dX3_findMatch_96 : decode cX3_findMatch 96 = .ok (.iinc 6 1, 3) := by decide +kernel
theorem dX3_findMatch_99 : decode cX3_findMatch 99 = .ok (.goto (-29), 3) := by decide +kernel
theorem dX3_findMatch_102 : decode cX3_findMatch 102 = .ok (.iload 6, 2) := by decide +kernel
theorem dX3_findMatch_104 : decode cX3_findMatch 104 = .ok (.iconst 3, 1) := by decide +kernel
theorem dX3_findMatch_105 : decode cX3_findMatch 105 = .ok (.if_icmp .lt 26, 3) := by decide +kernel
theorem dX3_findMatch_108 : decode cX3_findMatch 108 = .ok (.iload 6, 2) := by decide +kernel
theorem dX3_findMatch_110 : decode cX3_findMatch 110 = .ok (.aload_n 0, 1) := by decide +kernel
theorem dX3_findMatch_111 : decode cX3_findMatch 111 = .ok (.getfield 45, 3) := by decide +kernel
theorem dX3_findMatch_114 : decode cX3_findMatch 114 = .ok (.if_icmp .le 17, 3) := by decide +kernel
theorem dX3_findMatch_117 : decode cX3_findMatch 117 = .ok (.aload_n 0, 1) := by decide +kernel
theorem dX3_findMatch_118 : decode cX3_findMatch 118 = .ok (.iload 6, 2) := by decide +kernel
theorem dX3_findMatch_120 : decode cX3_findMatch 120 = .ok (.putfield 45, 3) := by decide +kernel
theorem dX3_findMatch_123 : decode cX3_findMatch 123 = .ok (.aload_n 0, 1) := by decide +kernel
theorem dX3_findMatch_124 : decode cX3_findMatch 124 = .ok (.iload_n 2, 1) := by decide +kernel
theorem dX3_findMatch_125 : decode cX3_findMatch 125 = .ok (.iload 4, 2) := by decide +kernel
theorem dX3_findMatch_127 : decode cX3_findMatch 127 = .ok (.isub, 1) := by decide +kernel
theorem dX3_findMatch_128 : decode cX3_findMatch 128 = .ok (.putfield 49, 3) := by decide +kernel
theorem dX3_findMatch_131 : decode cX3_findMatch 131 = .ok (.aload_n 0, 1) := by decide +kernel
theorem dX3_findMatch_132 : decode cX3_findMatch 132 = .ok (.iload 4, 2) := by decide +kernel
theorem dX3_findMatch_134 : decode cX3_findMatch 134 = .ok (.invokevirtual 144, 3) := by decide +kernel
theorem dX3_findMatch_137 : decode cX3_findMatch 137 = .ok (.istore 4, 2) := by decide +kernel
theorem dX3_findMatch_139 : decode cX3_findMatch 139 = .ok (.iinc 5 1, 3) := by decide +kernel
theorem dX3_findMatch_142 : decode cX3_findMatch 142 = .ok (.goto (-109), 3) := by decide +kernel
theorem dX3_findMatch_145 : decode cX3_findMatch 145 = .ok (.return_, 1) := by decide +kernel
theorem dX4_init_0 : decode cX4_init 0 = .ok (.aload_n 0, 1) := by decide +kernel
theorem dX4_init_1 : decode cX4_init 1 = .ok (.invokespecial 3, 3) := by decide +kernel
theorem dX4_init_4 : decode cX4_init 4 = .ok (.aload_n 0, 1) := by decide +kernel
theorem dX4_init_5 : decode cX4_init 5 = .ok (.sipush 256, 3) := by decide +kernel
theorem dX4_init_8 : decode cX4_init 8 = .ok (.newarray .int, 2) := by decide +kernel
theorem dX4_init_10 : decode cX4_init 10 = .ok (.putfield 9, 3) := by decide +kernel
theorem dX4_init_13 : decode cX4_init 13 = .ok (.aload_n 0, 1) := by decide +kernel
theorem dX4_init_14 : decode cX4_init 14 = .ok (.sipush 256, 3) := by decide +kernel
theorem dX4_init_17 : decode cX4_init 17 = .ok (.newarray .int, 2) := by decide +kernel
theorem dX4_init_19 : decode cX4_init 19 = .ok (.putfield 15, 3) := by decide +kernel
theorem dX4_init_22 : decode cX4_init 22 = .ok (.aload_n 0, 1) := by decide +kernel
theorem dX4_init_23 : decode cX4_init 23 = .ok (.sipush 256, 3) := by decide +kernel
theorem dX4_init_26 : decode cX4_init 26 = .ok (.newarray .int, 2) := by decide +kernel
theorem dX4_init_28 : decode cX4_init 28 = .ok (.putfield 18, 3) := by decide +kernel
theorem dX4_init_31 : decode cX4_init 31 = .ok (.aload_n 0, 1) := by decide +kernel
theorem dX4_init_32 : decode cX4_init 32 = .ok (.bipush 16, 2) := by decide +kernel
theorem dX4_init_34 : decode cX4_init 34 = .ok (.newarray .int, 2) := by decide +kernel
theorem dX4_init_36 : decode cX4_init 36 = .ok (.putfield 21, 3) := by decide +kernel
theorem dX4_init_39 : decode cX4_init 39 = .ok (.aload_n 0, 1) := by decide +kernel
theorem dX4_init_40 : decode cX4_init 40 = .ok (.bipush 17, 2) := by decide +kernel
theorem dX4_init_42 : decode cX4_init 42 = .ok (.newarray .int, 2) := by decide +kernel
theorem dX4_init_44 : decode cX4_init 44 = .ok (.putfield 24, 3) := by decide +kernel
theorem dX4_init_47 : decode cX4_init 47 = .ok (.aload_n 0, 1) := by decide +kernel
theorem dX4_init_48 : decode cX4_init 48 = .ok (.iconst 0, 1) := by decide +kernel
theorem dX4_init_49 : decode cX4_init 49 = .ok (.putfield 27, 3) := by decide +kernel
theorem dX4_init_52 : decode cX4_init 52 = .ok (.return_, 1) := by decide +kernel
theorem dX4_begin_0 : decode cX4_begin 0 = .ok (.aload_n 0, 1) := by decide +kernel
theorem dX4_begin_1 : decode cX4_begin 1 = .ok (.getfield 9, 3) := by decide +kernel
theorem dX4_begin_4 : decode cX4_begin 4 = .ok (.iconst 0, 1) := by decide +kernel
theorem dX4_begin_5 : decode cX4_begin 5 = .ok (.invokestatic 31, 3) := by decide +kernel
theorem dX4_begin_8 : decode cX4_begin 8 = .ok (.aload_n 0, 1) := by decide +kernel
theorem dX4_begin_9 : decode cX4_begin 9 = .ok (.getfield 21, 3) := by decide +kernel
theorem dX4_begin_12 : decode cX4_begin 12 = .ok (.iconst 0, 1) := by decide +kernel
theorem dX4_begin_13 : decode cX4_begin 13 = .ok (.invokestatic 31, 3) := by decide +kernel
theorem dX4_begin_16 : decode cX4_begin 16 = .ok (.aload_n 0, 1) := by decide +kernel
theorem dX4_begin_17 : decode cX4_begin 17 = .ok (.iconst 0, 1) := by decide +kernel
theorem dX4_begin_18 : decode cX4_begin 18 = .ok (.putfield 27, 3) := by decide +kernel
theorem dX4_begin_21 : decode cX4_begin 21 = .ok (.return_, 1) := by decide +kernel
theorem dX4_give_0 : decode cX4_give 0 = .ok (.iload_n 1, 1) := by decide +kernel
theorem dX4_give_1 : decode cX4_give 1 = .ok (.ifCond .lt 30, 3) := by decide +kernel
theorem dX4_give_4 : decode cX4_give 4 = .ok (.iload_n 1, 1) := by decide +kernel
theorem dX4_give_5 : decode cX4_give 5 = .ok (.sipush 256, 3) := by decide +kernel
theorem dX4_give_8 : decode cX4_give 8 = .ok (.if_icmp .ge 23, 3) := by decide +kernel
theorem dX4_give_11 : decode cX4_give 11 = .ok (.iload_n 2, 1) := by decide +kernel
theorem dX4_give_12 : decode cX4_give 12 = .ok (.iconst 1, 1) := by decide +kernel
theorem dX4_give_13 : decode cX4_give 13 = .ok (.if_icmp .lt 18, 3) := by decide +kernel
theorem dX4_give_16 : decode cX4_give 16 = .ok (.iload_n 2, 1) := by decide +kernel
theorem dX4_give_17 : decode cX4_give 17 = .ok (.bipush 15, 2) := by decide +kernel
theorem dX4_give_19 : decode cX4_give 19 = .ok (.if_icmp .gt 12, 3) := by decide +kernel
theorem dX4_give_22 : decode cX4_give 22 = .ok (.aload_n 0, 1) := by decide +kernel
theorem dX4_give_23 : decode cX4_give 23 = .ok (.getfield 9, 3) := by decide +kernel
theorem dX4_give_26 : decode cX4_give 26 = .ok (.iload_n 1, 1) := by decide +kernel
theorem dX4_give_27 : decode cX4_give 27 = .ok (.iaload, 1) := by decide +kernel
theorem dX4_give_28 : decode cX4_give 28 = .ok (.ifCond .le 4, 3) := by decide +kernel
theorem dX4_give_31 : decode cX4_give 31 = .ok (.return_, 1) := by decide +kernel
theorem dX4_give_32 : decode cX4_give 32 = .ok (.aload_n 0, 1) := by decide +kernel
theorem dX4_give_33 : decode cX4_give 33 = .ok (.getfield 9, 3) := by decide +kernel
theorem dX4_give_36 : decode cX4_give 36 = .ok (.iload_n 1, 1) := by decide +kernel
theorem dX4_give_37 : decode cX4_give 37 = .ok (.iload_n 2, 1) := by decide +kernel
theorem dX4_give_38 : decode cX4_give 38 = .ok (.iastore, 1) := by decide +kernel
theorem dX4_give_39 : decode cX4_give 39 = .ok (.aload_n 0, 1) := by decide +kernel
theorem dX4_give_40 : decode cX4_give 40 = .ok (.getfield 21, 3) := by decide +kernel
theorem dX4_give_43 : decode cX4_give 43 = .ok (.iload_n 2, 1) := by decide +kernel
theorem dX4_give_44 : decode cX4_give 44 = .ok (.dup2, 1) := by decide +kernel
theorem dX4_give_45 : decode cX4_give 45 = .ok (.iaload, 1) := by decide +kernel
theorem dX4_give_46 : decode cX4_give 46 = .ok (.iconst 1, 1) := by decide +kernel
theorem dX4_give_47 : decode cX4_give 47 = .ok (.iadd, 1) := by decide +kernel
theorem dX4_give_48 : decode cX4_give 48 = .ok (.iastore, 1) := by decide +kernel
theorem dX4_give_49 : decode cX4_give 49 = .ok (.aload_n 0, 1) := by decide +kernel
theorem dX4_give_50 : decode cX4_give 50 = .ok (.dup, 1) := by decide +kernel
theorem dX4_give_51 : decode cX4_give 51 = .ok (.getfield 27, 3) := by decide +kernel
theorem dX4_give_54 : decode cX4_give 54 = .ok (.iconst 1, 1) := by decide +kernel
theorem dX4_give_55 : decode cX4_give 55 = .ok (.iadd, 1) := by decide +kernel
theorem dX4_give_56 : decode cX4_give 56 = .ok (.putfield 27, 3) := by decide +kernel
theorem dX4_give_59 : decode cX4_give 59 = .ok (.return_, 1) := by decide +kernel
theorem dX4_lengthOf_0 : decode cX4_lengthOf 0 = .ok (.aload_n 0, 1) := by decide +kernel
theorem dX4_lengthOf_1 : decode cX4_lengthOf 1 = .ok (.getfield 9, 3) := by decide +kernel
theorem dX4_lengthOf_4 : decode cX4_lengthOf 4 = .ok (.iload_n 1, 1) := by decide +kernel
theorem dX4_lengthOf_5 : decode cX4_lengthOf 5 = .ok (.sipush 255, 3) := by decide +kernel
theorem dX4_lengthOf_8 : decode cX4_lengthOf 8 = .ok (.iand, 1) := by decide +kernel
theorem dX4_lengthOf_9 : decode cX4_lengthOf 9 = .ok (.iaload, 1) := by decide +kernel
theorem dX4_lengthOf_10 : decode cX4_lengthOf 10 = .ok (.ireturn, 1) := by decide +kernel
theorem dX4_codeOf_0 : decode cX4_codeOf 0 = .ok (.aload_n 0, 1) := by decide +kernel
theorem dX4_codeOf_1 : decode cX4_codeOf 1 = .ok (.getfield 15, 3) := by decide +kernel
theorem dX4_codeOf_4 : decode cX4_codeOf 4 = .ok (.iload_n 1, 1) := by decide +kernel
theorem dX4_codeOf_5 : decode cX4_codeOf 5 = .ok (.sipush 255, 3) := by decide +kernel
theorem dX4_codeOf_8 : decode cX4_codeOf 8 = .ok (.iand, 1) := by decide +kernel
theorem dX4_codeOf_9 : decode cX4_codeOf 9 = .ok (.iaload, 1) := by decide +kernel
theorem dX4_codeOf_10 : decode cX4_codeOf 10 = .ok (.ireturn, 1) := by decide +kernel
theorem dX4_isWhole_0 : decode cX4_isWhole 0 = .ok (.aload_n 0, 1) := by decide +kernel
theorem dX4_isWhole_1 : decode cX4_isWhole 1 = .ok (.getfield 27, 3) := by decide +kernel
theorem dX4_isWhole_4 : decode cX4_isWhole 4 = .ok (.iconst 1, 1) := by decide +kernel
theorem dX4_isWhole_5 : decode cX4_isWhole 5 = .ok (.if_icmp .ne 19, 3) := by decide +kernel
theorem dX4_isWhole_8 : decode cX4_isWhole 8 = .ok (.aload_n 0, 1) := by decide +kernel
theorem dX4_isWhole_9 : decode cX4_isWhole 9 = .ok (.getfield 21, 3) := by decide +kernel
theorem dX4_isWhole_12 : decode cX4_isWhole 12 = .ok (.iconst 1, 1) := by decide +kernel
theorem dX4_isWhole_13 : decode cX4_isWhole 13 = .ok (.iaload, 1) := by decide +kernel
theorem dX4_isWhole_14 : decode cX4_isWhole 14 = .ok (.iconst 1, 1) := by decide +kernel
theorem dX4_isWhole_15 : decode cX4_isWhole 15 = .ok (.if_icmp .ne 7, 3) := by decide +kernel
theorem dX4_isWhole_18 : decode cX4_isWhole 18 = .ok (.iconst 1, 1) := by decide +kernel
theorem dX4_isWhole_19 : decode cX4_isWhole 19 = .ok (.goto 4, 3) := by decide +kernel
theorem dX4_isWhole_22 : decode cX4_isWhole 22 = .ok (.iconst 0, 1) := by decide +kernel
theorem dX4_isWhole_23 : decode cX4_isWhole 23 = .ok (.ireturn, 1) := by decide +kernel
theorem dX4_isWhole_24 : decode cX4_isWhole 24 = .ok (.iconst 0, 1) := by decide +kernel
theorem dX4_isWhole_25 : decode cX4_isWhole 25 = .ok (.istore_n 1, 1) := by decide +kernel
theorem dX4_isWhole_26 : decode cX4_isWhole 26 = .ok (.iconst 1, 1) := by decide +kernel
theorem dX4_isWhole_27 : decode cX4_isWhole 27 = .ok (.istore_n 2, 1) := by decide +kernel
theorem dX4_isWhole_28 : decode cX4_isWhole 28 = .ok (.iload_n 2, 1) := by decide +kernel
theorem dX4_isWhole_29 : decode cX4_isWhole 29 = .ok (.bipush 15, 2) := by decide +kernel
theorem dX4_isWhole_31 : decode cX4_isWhole 31 = .ok (.if_icmp .gt 23, 3) := by decide +kernel
theorem dX4_isWhole_34 : decode cX4_isWhole 34 = .ok (.iload_n 1, 1) := by decide +kernel
theorem dX4_isWhole_35 : decode cX4_isWhole 35 = .ok (.aload_n 0, 1) := by decide +kernel
theorem dX4_isWhole_36 : decode cX4_isWhole 36 = .ok (.getfield 21, 3) := by decide +kernel
theorem dX4_isWhole_39 : decode cX4_isWhole 39 = .ok (.iload_n 2, 1) := by decide +kernel
theorem dX4_isWhole_40 : decode cX4_isWhole 40 = .ok (.iaload, 1) := by decide +kernel
theorem dX4_isWhole_41 : decode cX4_isWhole 41 = .ok (.bipush 15, 2) := by decide +kernel
theorem dX4_isWhole_43 : decode cX4_isWhole 43 = .ok (.iload_n 2, 1) := by decide +kernel
theorem dX4_isWhole_44 : decode cX4_isWhole 44 = .ok (.isub, 1) := by decide +kernel
theorem dX4_isWhole_45 : decode cX4_isWhole 45 = .ok (.ishl, 1) := by decide +kernel
theorem dX4_isWhole_46 : decode cX4_isWhole 46 = .ok (.iadd, 1) := by decide +kernel
theorem dX4_isWhole_47 : decode cX4_isWhole 47 = .ok (.istore_n 1, 1) := by decide +kernel
theorem dX4_isWhole_48 : decode cX4_isWhole 48 = .ok (.iinc 2 1, 3) := by decide +kernel
theorem dX4_isWhole_51 : decode cX4_isWhole 51 = .ok (.goto (-23), 3) := by decide +kernel
theorem dX4_isWhole_54 : decode cX4_isWhole 54 = .ok (.iload_n 1, 1) := by decide +kernel
theorem dX4_isWhole_55 : decode cX4_isWhole 55 = .ok (.ldc 37, 2) := by decide +kernel
theorem dX4_isWhole_57 : decode cX4_isWhole 57 = .ok (.if_icmp .ne 7, 3) := by decide +kernel
theorem dX4_isWhole_60 : decode cX4_isWhole 60 = .ok (.iconst 1, 1) := by decide +kernel
theorem dX4_isWhole_61 : decode cX4_isWhole 61 = .ok (.goto 4, 3) := by decide +kernel
theorem dX4_isWhole_64 : decode cX4_isWhole 64 = .ok (.iconst 0, 1) := by decide +kernel
theorem dX4_isWhole_65 : decode cX4_isWhole 65 = .ok (.ireturn, 1) := by decide +kernel
theorem dX4_assign_0 : decode cX4_assign 0 = .ok (.aload_n 0, 1) := by decide +kernel
theorem dX4_assign_1 : decode cX4_assign 1 = .ok (.invokevirtual 38, 3) := by decide +kernel
theorem dX4_assign_4 : decode cX4_assign 4 = .ok (.iconst 0, 1) := by decide +kernel
theorem dX4_assign_5 : decode cX4_assign 5 = .ok (.istore_n 1, 1) := by decide +kernel
theorem dX4_assign_6 : decode cX4_assign 6 = .ok (.iconst 0, 1) := by decide +kernel
theorem dX4_assign_7 : decode cX4_assign 7 = .ok (.istore_n 2, 1) := by decide +kernel
theorem dX4_assign_8 : decode cX4_assign 8 = .ok (.iconst 0, 1) := by decide +kernel
theorem dX4_assign_9 : decode cX4_assign 9 = .ok (.istore_n 3, 1) := by decide +kernel
theorem dX4_assign_10 : decode cX4_assign 10 = .ok (.iload_n 3, 1) := by decide +kernel
theorem dX4_assign_11 : decode cX4_assign 11 = .ok (.aload_n 0, 1) := by decide +kernel
theorem dX4_assign_12 : decode cX4_assign 12 = .ok (.getfield 27, 3) := by decide +kernel
theorem dX4_assign_15 : decode cX4_assign 15 = .ok (.if_icmp .ge 63, 3) := by decide +kernel
theorem dX4_assign_18 : decode cX4_assign 18 = .ok (.iload_n 3, 1) := by decide +kernel
theorem dX4_assign_19 : decode cX4_assign 19 = .ok (.sipush 256, 3) := by decide +kernel
theorem dX4_assign_22 : decode cX4_assign 22 = .ok (.if_icmp .ge 56, 3) := by decide +kernel
theorem dX4_assign_25 : decode cX4_assign 25 = .ok (.aload_n 0, 1) := by decide +kernel
theorem dX4_assign_26 : decode cX4_assign 26 = .ok (.getfield 18, 3) := by decide +kernel
theorem dX4_assign_29 : decode cX4_assign 29 = .ok (.iload_n 3, 1) := by decide +kernel
theorem dX4_assign_30 : decode cX4_assign 30 = .ok (.iaload, 1) := by decide +kernel
theorem dX4_assign_31 : decode cX4_assign 31 = .ok (.sipush 255, 3) := by decide +kernel
theorem dX4_assign_34 : decode cX4_assign 34 = .ok (.iand, 1) := by decide +kernel
theorem dX4_assign_35 : decode cX4_assign 35 = .ok (.istore 4, 2) := by decide +kernel
theorem dX4_assign_37 : decode cX4_assign 37 = .ok (.iload_n 1, 1) := by decide +kernel
theorem dX4_assign_38 : decode cX4_assign 38 = .ok (.iconst 0, 1) := by decide +kernel
theorem dX4_assign_39 : decode cX4_assign 39 = .ok (.aload_n 0, 1) := by decide +kernel
theorem dX4_assign_40 : decode cX4_assign 40 = .ok (.getfield 9, 3) := by decide +kernel
theorem dX4_assign_43 : decode cX4_assign 43 = .ok (.iload 4, 2) := by decide +kernel
theorem dX4_assign_45 : decode cX4_assign 45 = .ok (.iaload, 1) := by decide +kernel
theorem dX4_assign_46 : decode cX4_assign 46 = .ok (.iload_n 2, 1) := by decide +kernel
theorem dX4_assign_47 : decode cX4_assign 47 = .ok (.isub, 1) := by decide +kernel
theorem dX4_assign_48 : decode cX4_assign 48 = .ok (.invokestatic 41, 3) := by decide +kernel
theorem dX4_assign_51 : decode cX4_assign 51 = .ok (.ishl, 1) := by decide +kernel
theorem dX4_assign_52 : decode cX4_assign 52 = .ok (.istore_n 1, 1) := by decide +kernel
theorem dX4_assign_53 : decode cX4_assign 53 = .ok (.aload_n 0, 1) := by decide +kernel
theorem dX4_assign_54 : decode cX4_assign 54 = .ok (.getfield 15, 3) := by decide +kernel
theorem dX4_assign_57 : decode cX4_assign 57 = .ok (.iload 4, 2) := by decide +kernel
theorem dX4_assign_59 : decode cX4_assign 59 = .ok (.iload_n 1, 1) := by decide +kernel
theorem dX4_assign_60 : decode cX4_assign 60 = .ok (.iastore, 1) := by decide +kernel
theorem dX4_assign_61 : decode cX4_assign 61 = .ok (.iinc 1 1, 3) := by decide +kernel
theorem dX4_assign_64 : decode cX4_assign 64 = .ok (.aload_n 0, 1) := by decide +kernel
theorem dX4_assign_65 : decode cX4_assign 65 = .ok (.getfield 9, 3) := by decide +kernel
theorem dX4_assign_68 : decode cX4_assign 68 = .ok (.iload 4, 2) := by decide +kernel
theorem dX4_assign_70 : decode cX4_assign 70 = .ok (.iaload, 1) := by decide +kernel
theorem dX4_assign_71 : decode cX4_assign 71 = .ok (.istore_n 2, 1) := by decide +kernel
theorem dX4_assign_72 : decode cX4_assign 72 = .ok (.iinc 3 1, 3) := by decide +kernel
theorem dX4_assign_75 : decode cX4_assign 75 = .ok (.goto (-65), 3) := by decide +kernel
theorem dX4_assign_78 : decode cX4_assign 78 = .ok (.return_, 1) := by decide +kernel
theorem dX4_rank_0 : decode cX4_rank 0 = .ok (.aload_n 0, 1) := by decide +kernel
theorem dX4_rank_1 : decode cX4_rank 1 = .ok (.getfield 24, 3) := by decide +kernel
theorem dX4_rank_4 : decode cX4_rank 4 = .ok (.iconst 0, 1) := by decide +kernel
theorem dX4_rank_5 : decode cX4_rank 5 = .ok (.iconst 0, 1) := by decide +kernel
theorem dX4_rank_6 : decode cX4_rank 6 = .ok (.iastore, 1) := by decide +kernel
theorem dX4_rank_7 : decode cX4_rank 7 = .ok (.iconst 0, 1) := by decide +kernel
theorem dX4_rank_8 : decode cX4_rank 8 = .ok (.istore_n 1, 1) := by decide +kernel
theorem dX4_rank_9 : decode cX4_rank 9 = .ok (.iload_n 1, 1) := by decide +kernel
theorem dX4_rank_10 : decode cX4_rank 10 = .ok (.bipush 15, 2) := by decide +kernel
theorem dX4_rank_12 : decode cX4_rank 12 = .ok (.if_icmp .gt 30, 3) := by decide +kernel
theorem dX4_rank_15 : decode cX4_rank 15 = .ok (.aload_n 0, 1) := by decide +kernel
theorem dX4_rank_16 : decode cX4_rank 16 = .ok (.getfield 24, 3) := by decide +kernel
theorem dX4_rank_19 : decode cX4_rank 19 = .ok (.iload_n 1, 1) := by decide +kernel
theorem dX4_rank_20 : decode cX4_rank 20 = .ok (.iconst 1, 1) := by decide +kernel
theorem dX4_rank_21 : decode cX4_rank 21 = .ok (.iadd, 1) := by decide +kernel
theorem dX4_rank_22 : decode cX4_rank 22 = .ok (.aload_n 0, 1) := by decide +kernel
theorem dX4_rank_23 : decode cX4_rank 23 = .ok (.getfield 24, 3) := by decide +kernel
theorem dX4_rank_26 : decode cX4_rank 26 = .ok (.iload_n 1, 1) := by decide +kernel
theorem dX4_rank_27 : decode cX4_rank 27 = .ok (.iaload, 1) := by decide +kernel
theorem dX4_rank_28 : decode cX4_rank 28 = .ok (.aload_n 0, 1) := by decide +kernel
theorem dX4_rank_29 : decode cX4_rank 29 = .ok (.getfield 21, 3) := by decide +kernel
theorem dX4_rank_32 : decode cX4_rank 32 = .ok (.iload_n 1, 1) := by decide +kernel
theorem dX4_rank_33 : decode cX4_rank 33 = .ok (.iaload, 1) := by decide +kernel
theorem dX4_rank_34 : decode cX4_rank 34 = .ok (.iadd, 1) := by decide +kernel
theorem dX4_rank_35 : decode cX4_rank 35 = .ok (.iastore, 1) := by decide +kernel
theorem dX4_rank_36 : decode cX4_rank 36 = .ok (.iinc 1 1, 3) := by decide +kernel
theorem dX4_rank_39 : decode cX4_rank 39 = .ok (.goto (-30), 3) := by decide +kernel
theorem dX4_rank_42 : decode cX4_rank 42 = .ok (.iconst 0, 1) := by decide +kernel
theorem dX4_rank_43 : decode cX4_rank 43 = .ok (.istore_n 1, 1) := by decide +kernel
theorem dX4_rank_44 : decode cX4_rank 44 = .ok (.iload_n 1, 1) := by decide +kernel
theorem dX4_rank_45 : decode cX4_rank 45 = .ok (.sipush 256, 3) := by decide +kernel
theorem dX4_rank_48 : decode cX4_rank 48 = .ok (.if_icmp .ge 57, 3) := by decide +kernel
theorem dX4_rank_51 : decode cX4_rank 51 = .ok (.aload_n 0, 1) := by decide +kernel
theorem dX4_rank_52 : decode cX4_rank 52 = .ok (.getfield 9, 3) := by decide +kernel
theorem dX4_rank_55 : decode cX4_rank 55 = .ok (.iload_n 1, 1) := by decide +kernel
theorem dX4_rank_56 : decode cX4_rank 56 = .ok (.iaload, 1) := by decide +kernel
theorem dX4_rank_57 : decode cX4_rank 57 = .ok (.bipush 15, 2) := by decide +kernel
theorem dX4_rank_59 : decode cX4_rank 59 = .ok (.iand, 1) := by decide +kernel
theorem dX4_rank_60 : decode cX4_rank 60 = .ok (.istore_n 2, 1) := by decide +kernel
theorem dX4_rank_61 : decode cX4_rank 61 = .ok (.iload_n 2, 1) := by decide +kernel
theorem dX4_rank_62 : decode cX4_rank 62 = .ok (.ifCond .le 37, 3) := by decide +kernel
theorem dX4_rank_65 : decode cX4_rank 65 = .ok (.aload_n 0, 1) := by decide +kernel
theorem dX4_rank_66 : decode cX4_rank 66 = .ok (.getfield 24, 3) := by decide +kernel
theorem dX4_rank_69 : decode cX4_rank 69 = .ok (.iload_n 2, 1) := by decide +kernel
theorem dX4_rank_70 : decode cX4_rank 70 = .ok (.iaload, 1) := by decide +kernel
theorem dX4_rank_71 : decode cX4_rank 71 = .ok (.sipush 256, 3) := by decide +kernel
theorem dX4_rank_74 : decode cX4_rank 74 = .ok (.if_icmp .ge 25, 3) := by decide +kernel
theorem dX4_rank_77 : decode cX4_rank 77 = .ok (.aload_n 0, 1) := by decide +kernel
theorem dX4_rank_78 : decode cX4_rank 78 = .ok (.getfield 18, 3) := by decide +kernel
theorem dX4_rank_81 : decode cX4_rank 81 = .ok (.aload_n 0, 1) := by decide +kernel
theorem dX4_rank_82 : decode cX4_rank 82 = .ok (.getfield 24, 3) := by decide +kernel
theorem dX4_rank_85 : decode cX4_rank 85 = .ok (.iload_n 2, 1) := by decide +kernel
theorem dX4_rank_86 : decode cX4_rank 86 = .ok (.iaload, 1) := by decide +kernel
theorem dX4_rank_87 : decode cX4_rank 87 = .ok (.iload_n 1, 1) := by decide +kernel
theorem dX4_rank_88 : decode cX4_rank 88 = .ok (.iastore, 1) := by decide +kernel
theorem dX4_rank_89 : decode cX4_rank 89 = .ok (.aload_n 0, 1) := by decide +kernel
theorem dX4_rank_90 : decode cX4_rank 90 = .ok (.getfield 24, 3) := by decide +kernel
theorem dX4_rank_93 : decode cX4_rank 93 = .ok (.iload_n 2, 1) := by decide +kernel
theorem dX4_rank_94 : decode cX4_rank 94 = .ok (.dup2, 1) := by decide +kernel
theorem dX4_rank_95 : decode cX4_rank 95 = .ok (.iaload, 1) := by decide +kernel
theorem dX4_rank_96 : decode cX4_rank 96 = .ok (.iconst 1, 1) := by decide +kernel
theorem dX4_rank_97 : decode cX4_rank 97 = .ok (.iadd, 1) := by decide +kernel
theorem dX4_rank_98 : decode cX4_rank 98 = .ok (.iastore, 1) := by decide +kernel
theorem dX4_rank_99 : decode cX4_rank 99 = .ok (.iinc 1 1, 3) := by decide +kernel
theorem dX4_rank_102 : decode cX4_rank 102 = .ok (.goto (-58), 3) := by decide +kernel
theorem dX4_rank_105 : decode cX4_rank 105 = .ok (.return_, 1) := by decide +kernel
theorem dX4_readFrom_0 : decode cX4_readFrom 0 = .ok (.iconst 0, 1) := by decide +kernel
theorem dX4_readFrom_1 : decode cX4_readFrom 1 = .ok (.istore_n 2, 1) := by decide +kernel
theorem dX4_readFrom_2 : decode cX4_readFrom 2 = .ok (.iconst 0, 1) := by decide +kernel
theorem dX4_readFrom_3 : decode cX4_readFrom 3 = .ok (.istore_n 3, 1) := by decide +kernel
theorem dX4_readFrom_4 : decode cX4_readFrom 4 = .ok (.iconst 0, 1) := by decide +kernel
theorem dX4_readFrom_5 : decode cX4_readFrom 5 = .ok (.istore 4, 2) := by decide +kernel
theorem dX4_readFrom_7 : decode cX4_readFrom 7 = .ok (.iconst 1, 1) := by decide +kernel
theorem dX4_readFrom_8 : decode cX4_readFrom 8 = .ok (.istore 5, 2) := by decide +kernel
theorem dX4_readFrom_10 : decode cX4_readFrom 10 = .ok (.iload 5, 2) := by decide +kernel
theorem dX4_readFrom_12 : decode cX4_readFrom 12 = .ok (.bipush 15, 2) := by decide +kernel
theorem dX4_readFrom_14 : decode cX4_readFrom 14 = .ok (.if_icmp .gt 94, 3) := by decide +kernel
theorem dX4_readFrom_17 : decode cX4_readFrom 17 = .ok (.aload_n 1, 1) := by decide +kernel
theorem dX4_readFrom_18 : decode cX4_readFrom 18 = .ok (.invokevirtual 47, 3) := by decide +kernel
theorem dX4_readFrom_21 : decode cX4_readFrom 21 = .ok (.ifCond .eq 87, 3) := by decide +kernel
theorem dX4_readFrom_24 : decode cX4_readFrom 24 = .ok (.iload_n 2, 1) := by decide +kernel
theorem dX4_readFrom_25 : decode cX4_readFrom 25 = .ok (.iconst 1, 1) := by decide +kernel
theorem dX4_readFrom_26 : decode cX4_readFrom 26 = .ok (.ishl, 1) := by decide +kernel
theorem dX4_readFrom_27 : decode cX4_readFrom 27 = .ok (.aload_n 1, 1) := by decide +kernel
theorem dX4_readFrom_28 : decode cX4_readFrom 28 = .ok (.invokevirtual 53, 3) := by decide +kernel
theorem dX4_readFrom_31 : decode cX4_readFrom 31 = .ok (.ior, 1) := by decide +kernel
theorem dX4_readFrom_32 : decode cX4_readFrom 32 = .ok (.istore_n 2, 1) := by decide +kernel
theorem dX4_readFrom_33 : decode cX4_readFrom 33 = .ok (.iload_n 2, 1) := by decide +kernel
theorem dX4_readFrom_34 : decode cX4_readFrom 34 = .ok (.iload_n 3, 1) := by decide +kernel
theorem dX4_readFrom_35 : decode cX4_readFrom 35 = .ok (.isub, 1) := by decide +kernel
theorem dX4_readFrom_36 : decode cX4_readFrom 36 = .ok (.istore 6, 2) := by decide +kernel
theorem dX4_readFrom_38 : decode cX4_readFrom 38 = .ok (.iload 6, 2) := by decide +kernel
theorem dX4_readFrom_40 : decode cX4_readFrom 40 = .ok (.aload_n 0, 1) := by decide +kernel
theorem dX4_readFrom_41 : decode cX4_readFrom 41 = .ok (.getfield 21, 3) := by decide +kernel
theorem dX4_readFrom_44 : decode cX4_readFrom 44 = .ok (.iload 5, 2) := by decide +kernel
theorem dX4_readFrom_46 : decode cX4_readFrom 46 = .ok (.iaload, 1) := by decide +kernel
theorem dX4_readFrom_47 : decode cX4_readFrom 47 = .ok (.if_icmp .ge 18, 3) := by decide +kernel
theorem dX4_readFrom_50 : decode cX4_readFrom 50 = .ok (.aload_n 0, 1) := by decide +kernel
theorem dX4_readFrom_51 : decode cX4_readFrom 51 = .ok (.getfield 18, 3) := by decide +kernel
theorem dX4_readFrom_54 : decode cX4_readFrom 54 = .ok (.iload 4, 2) := by decide +kernel
theorem dX4_readFrom_56 : decode cX4_readFrom 56 = .ok (.iload 6, 2) := by decide +kernel
theorem dX4_readFrom_58 : decode cX4_readFrom 58 = .ok (.iadd, 1) := by decide +kernel
theorem dX4_readFrom_59 : decode cX4_readFrom 59 = .ok (.sipush 255, 3) := by decide +kernel
theorem dX4_readFrom_62 : decode cX4_readFrom 62 = .ok (.iand, 1) := by decide +kernel
theorem dX4_readFrom_63 : decode cX4_readFrom 63 = .ok (.iaload, 1) := by decide +kernel
theorem dX4_readFrom_64 : decode cX4_readFrom 64 = .ok (.ireturn, 1) := by decide +kernel
theorem dX4_readFrom_65 : decode cX4_readFrom 65 = .ok (.aload_n 0, 1) := by decide +kernel
theorem dX4_readFrom_66 : decode cX4_readFrom 66 = .ok (.getfield 27, 3) := by decide +kernel
theorem dX4_readFrom_69 : decode cX4_readFrom 69 = .ok (.iconst 1, 1) := by decide +kernel
theorem dX4_readFrom_70 : decode cX4_readFrom 70 = .ok (.if_icmp .ne 8, 3) := by decide +kernel
theorem dX4_readFrom_73 : decode cX4_readFrom 73 = .ok (.aload_n 1, 1) := by decide +kernel
theorem dX4_readFrom_74 : decode cX4_readFrom 74 = .ok (.iconst 4, 1) := by decide +kernel
theorem dX4_readFrom_75 : decode cX4_readFrom 75 = .ok (.invokevirtual 57, 3) := by decide +kernel
theorem dX4_readFrom_78 : decode cX4_readFrom 78 = .ok (.iload 4, 2) := by decide +kernel
theorem dX4_readFrom_80 : decode cX4_readFrom 80 = .ok (.aload_n 0, 1) := by decide +kernel
theorem dX4_readFrom_81 : decode cX4_readFrom 81 = .ok (.getfield 21, 3) := by decide +kernel
theorem dX4_readFrom_84 : decode cX4_readFrom 84 = .ok (.iload 5, 2) := by decide +kernel
theorem dX4_readFrom_86 : decode cX4_readFrom 86 = .ok (.iaload, 1) := by decide +kernel
theorem dX4_readFrom_87 : decode cX4_readFrom 87 = .ok (.iadd, 1) := by decide +kernel
theorem dX4_readFrom_88 : decode cX4_readFrom 88 = .ok (.istore 4, 2) := by decide +kernel
theorem dX4_readFrom_90 : decode cX4_readFrom 90 = .ok (.iload_n 3, 1) := by decide +kernel
theorem dX4_readFrom_91 : decode cX4_readFrom 91 = .ok (.aload_n 0, 1) := by decide +kernel
theorem dX4_readFrom_92 : decode cX4_readFrom 92 = .ok (.getfield 21, 3) := by decide +kernel
theorem dX4_readFrom_95 : decode cX4_readFrom 95 = .ok (.iload 5, 2) := by decide +kernel
theorem dX4_readFrom_97 : decode cX4_readFrom 97 = .ok (.iaload, 1) := by decide +kernel
theorem dX4_readFrom_98 : decode cX4_readFrom 98 = .ok (.iadd, 1) := by decide +kernel
theorem dX4_readFrom_99 : decode cX4_readFrom 99 = .ok (.iconst 1, 1) := by decide +kernel
theorem dX4_readFrom_100 : decode cX4_readFrom 100 = .ok (.ishl, 1) := by decide +kernel
theorem dX4_readFrom_101 : decode cX4_readFrom 101 = .ok (.istore_n 3, 1) := by decide +kernel
theorem dX4_readFrom_102 : decode cX4_readFrom 102 = .ok (.iinc 5 1, 3) := by decide +kernel
theorem dX4_readFrom_105 : decode cX4_readFrom 105 = .ok (.goto (-95), 3) := by decide +kernel
theorem dX4_readFrom_108 : decode cX4_readFrom 108 = .ok (.iconst 0, 1) := by decide +kernel
theorem dX4_readFrom_109 : decode cX4_readFrom 109 = .ok (.ireturn, 1) := by decide +kernel
theorem dX5_init_0 : decode cX5_init 0 = .ok (.aload_n 0, 1) := by decide +kernel
theorem dX5_init_1 : decode cX5_init 1 = .ok (.invokespecial 3, 3) := by decide +kernel
theorem dX5_init_4 : decode cX5_init 4 = .ok (.aload_n 0, 1) := by decide +kernel
theorem dX5_init_5 : decode cX5_init 5 = .ok (.new 9, 3) := by decide +kernel
theorem dX5_init_8 : decode cX5_init 8 = .ok (.dup, 1) := by decide +kernel
theorem dX5_init_9 : decode cX5_init 9 = .ok (.iconst 0, 1) := by decide +kernel
theorem dX5_init_10 : decode cX5_init 10 = .ok (.invokespecial 11, 3) := by decide +kernel
theorem dX5_init_13 : decode cX5_init 13 = .ok (.putfield 14, 3) := by decide +kernel
theorem dX5_init_16 : decode cX5_init 16 = .ok (.aload_n 0, 1) := by decide +kernel
theorem dX5_init_17 : decode cX5_init 17 = .ok (.iconst 0, 1) := by decide +kernel
theorem dX5_init_18 : decode cX5_init 18 = .ok (.putfield 20, 3) := by decide +kernel
theorem dX5_init_21 : decode cX5_init 21 = .ok (.aload_n 0, 1) := by decide +kernel
theorem dX5_init_22 : decode cX5_init 22 = .ok (.iconst 0, 1) := by decide +kernel
theorem dX5_init_23 : decode cX5_init 23 = .ok (.putfield 24, 3) := by decide +kernel
theorem dX5_init_26 : decode cX5_init 26 = .ok (.aload_n 0, 1) := by decide +kernel
theorem dX5_init_27 : decode cX5_init 27 = .ok (.iconst 0, 1) := by decide +kernel
theorem dX5_init_28 : decode cX5_init 28 = .ok (.putfield 27, 3) := by decide +kernel
theorem dX5_init_31 : decode cX5_init 31 = .ok (.aload_n 0, 1) := by decide +kernel
theorem dX5_init_32 : decode cX5_init 32 = .ok (.iconst 0, 1) := by decide +kernel
theorem dX5_init_33 : decode cX5_init 33 = .ok (.putfield 30, 3) := by decide +kernel
theorem dX5_init_36 : decode cX5_init 36 = .ok (.aload_n 0, 1) := by decide +kernel
theorem dX5_init_37 : decode cX5_init 37 = .ok (.iconst 0, 1) := by decide +kernel
theorem dX5_init_38 : decode cX5_init 38 = .ok (.putfield 33, 3) := by decide +kernel
theorem dX5_init_41 : decode cX5_init 41 = .ok (.return_, 1) := by decide +kernel
theorem dX5_begin_0 : decode cX5_begin 0 = .ok (.aload_n 0, 1) := by decide +kernel
theorem dX5_begin_1 : decode cX5_begin 1 = .ok (.aload_n 1, 1) := by decide +kernel
theorem dX5_begin_2 : decode cX5_begin 2 = .ok (.putfield 14, 3) := by decide +kernel
theorem dX5_begin_5 : decode cX5_begin 5 = .ok (.aload_n 0, 1) := by decide +kernel
theorem dX5_begin_6 : decode cX5_begin 6 = .ok (.iconst 0, 1) := by decide +kernel
theorem dX5_begin_7 : decode cX5_begin 7 = .ok (.putfield 20, 3) := by decide +kernel
theorem dX5_begin_10 : decode cX5_begin 10 = .ok (.aload_n 0, 1) := by decide +kernel
theorem dX5_begin_11 : decode cX5_begin 11 = .ok (.iconst 0, 1) := by decide +kernel
theorem dX5_begin_12 : decode cX5_begin 12 = .ok (.putfield 24, 3) := by decide +kernel
theorem dX5_begin_15 : decode cX5_begin 15 = .ok (.aload_n 0, 1) := by decide +kernel
theorem dX5_begin_16 : decode cX5_begin 16 = .ok (.iconst 0, 1) := by decide +kernel
theorem dX5_begin_17 : decode cX5_begin 17 = .ok (.putfield 27, 3) := by decide +kernel
theorem dX5_begin_20 : decode cX5_begin 20 = .ok (.aload_n 0, 1) := by decide +kernel
theorem dX5_begin_21 : decode cX5_begin 21 = .ok (.iconst 0, 1) := by decide +kernel
theorem dX5_begin_22 : decode cX5_begin 22 = .ok (.putfield 30, 3) := by decide +kernel
theorem dX5_begin_25 : decode cX5_begin 25 = .ok (.aload_n 0, 1) := by decide +kernel
theorem dX5_begin_26 : decode cX5_begin 26 = .ok (.iconst 0, 1) := by decide +kernel
theorem dX5_begin_27 : decode cX5_begin 27 = .ok (.putfield 33, 3) := by decide +kernel
theorem dX5_begin_30 : decode cX5_begin 30 = .ok (.return_, 1) := by decide +kernel
theorem dX5_isFine_0 : decode cX5_isFine 0 = .ok (.aload_n 0, 1) := by decide +kernel
theorem dX5_isFine_1 : decode cX5_isFine 1 = .ok (.getfield 30, 3) := by decide +kernel
theorem dX5_isFine_4 : decode cX5_isFine 4 = .ok (.ifCond .ne 7, 3) := by decide +kernel
theorem dX5_isFine_7 : decode cX5_isFine 7 = .ok (.iconst 1, 1) := by decide +kernel
theorem dX5_isFine_8 : decode cX5_isFine 8 = .ok (.goto 4, 3) := by decide +kernel
theorem dX5_isFine_11 : decode cX5_isFine 11 = .ok (.iconst 0, 1) := by decide +kernel
theorem dX5_isFine_12 : decode cX5_isFine 12 = .ok (.ireturn, 1) := by decide +kernel
theorem dX5_fault_0 : decode cX5_fault 0 = .ok (.aload_n 0, 1) := by decide +kernel
theorem dX5_fault_1 : decode cX5_fault 1 = .ok (.getfield 30, 3) := by decide +kernel
theorem dX5_fault_4 : decode cX5_fault 4 = .ok (.ireturn, 1) := by decide +kernel
theorem dX5_faultPlace_0 : decode cX5_faultPlace 0 = .ok (.aload_n 0, 1) := by decide +kernel
theorem dX5_faultPlace_1 : decode cX5_faultPlace 1 = .ok (.getfield 33, 3) := by decide +kernel
theorem dX5_faultPlace_4 : decode cX5_faultPlace 4 = .ok (.ireturn, 1) := by decide +kernel
theorem dX5_next_0 : decode cX5_next 0 = .ok (.aload_n 0, 1) := by decide +kernel
theorem dX5_next_1 : decode cX5_next 1 = .ok (.getfield 30, 3) := by decide +kernel
theorem dX5_next_4 : decode cX5_next 4 = .ok (.ifCond .eq 5, 3) := by decide +kernel
theorem dX5_next_7 : decode cX5_next 7 = .ok (.iconst 0, 1) := by decide +kernel
theorem dX5_next_8 : decode cX5_next 8 = .ok (.ireturn, 1) := by decide +kernel
theorem dX5_next_9 : decode cX5_next 9 = .ok (.aload_n 0, 1) := by decide +kernel
theorem dX5_next_10 : decode cX5_next 10 = .ok (.getfield 14, 3) := by decide +kernel
theorem dX5_next_13 : decode cX5_next 13 = .ok (.aload_n 0, 1) := by decide +kernel
theorem dX5_next_14 : decode cX5_next 14 = .ok (.getfield 20, 3) := by decide +kernel
theorem dX5_next_17 : decode cX5_next 17 = .ok (.invokevirtual 36, 3) := by decide +kernel
theorem dX5_next_20 : decode cX5_next 20 = .ok (.ifCond .ne 17, 3) := by decide +kernel
theorem dX5_next_23 : decode cX5_next 23 = .ok (.aload_n 0, 1) := by decide +kernel
theorem dX5_next_24 : decode cX5_next 24 = .ok (.iconst 2, 1) := by decide +kernel
theorem dX5_next_25 : decode cX5_next 25 = .ok (.aload_n 0, 1) := by decide +kernel
theorem dX5_next_26 : decode cX5_next 26 = .ok (.getfield 14, 3) := by decide +kernel
theorem dX5_next_29 : decode cX5_next 29 = .ok (.invokevirtual 40, 3) := by decide +kernel
theorem dX5_next_32 : decode cX5_next 32 = .ok (.invokevirtual 44, 3) := by decide +kernel
theorem dX5_next_35 : decode cX5_next 35 = .ok (.iconst 0, 1) := by decide +kernel
theorem dX5_next_36 : decode cX5_next 36 = .ok (.ireturn, 1) := by decide +kernel
theorem dX5_next_37 : decode cX5_next 37 = .ok (.aload_n 0, 1) := by decide +kernel
theorem dX5_next_38 : decode cX5_next 38 = .ok (.dup, 1) := by decide +kernel
theorem dX5_next_39 : decode cX5_next 39 = .ok (.getfield 20, 3) := by decide +kernel
theorem dX5_next_42 : decode cX5_next 42 = .ok (.iconst 1, 1) := by decide +kernel
theorem dX5_next_43 : decode cX5_next 43 = .ok (.iadd, 1) := by decide +kernel
theorem dX5_next_44 : decode cX5_next 44 = .ok (.putfield 20, 3) := by decide +kernel
theorem dX5_next_47 : decode cX5_next 47 = .ok (.aload_n 0, 1) := by decide +kernel
theorem dX5_next_48 : decode cX5_next 48 = .ok (.getfield 14, 3) := by decide +kernel
theorem dX5_next_51 : decode cX5_next 51 = .ok (.aload_n 0, 1) := by decide +kernel
theorem dX5_next_52 : decode cX5_next 52 = .ok (.getfield 20, 3) := by decide +kernel
theorem dX5_next_55 : decode cX5_next 55 = .ok (.iconst 1, 1) := by decide +kernel
theorem dX5_next_56 : decode cX5_next 56 = .ok (.isub, 1) := by decide +kernel
theorem dX5_next_57 : decode cX5_next 57 = .ok (.invokevirtual 48, 3) := by decide +kernel
theorem dX5_next_60 : decode cX5_next 60 = .ok (.ireturn, 1) := by decide +kernel
theorem dX5_bit_0 : decode cX5_bit 0 = .ok (.aload_n 0, 1) := by decide +kernel
theorem dX5_bit_1 : decode cX5_bit 1 = .ok (.getfield 27, 3) := by decide +kernel
theorem dX5_bit_4 : decode cX5_bit 4 = .ok (.ifCond .ne 17, 3) := by decide +kernel
theorem dX5_bit_7 : decode cX5_bit 7 = .ok (.aload_n 0, 1) := by decide +kernel
theorem dX5_bit_8 : decode cX5_bit 8 = .ok (.aload_n 0, 1) := by decide +kernel
theorem dX5_bit_9 : decode cX5_bit 9 = .ok (.invokevirtual 52, 3) := by decide +kernel
theorem dX5_bit_12 : decode cX5_bit 12 = .ok (.putfield 24, 3) := by decide +kernel
theorem dX5_bit_15 : decode cX5_bit 15 = .ok (.aload_n 0, 1) := by decide +kernel
theorem dX5_bit_16 : decode cX5_bit 16 = .ok (.bipush 8, 2) := by decide +kernel
theorem dX5_bit_18 : decode cX5_bit 18 = .ok (.putfield 27, 3) := by decide +kernel
theorem dX5_bit_21 : decode cX5_bit 21 = .ok (.aload_n 0, 1) := by decide +kernel
theorem dX5_bit_22 : decode cX5_bit 22 = .ok (.dup, 1) := by decide +kernel
theorem dX5_bit_23 : decode cX5_bit 23 = .ok (.getfield 27, 3) := by decide +kernel
theorem dX5_bit_26 : decode cX5_bit 26 = .ok (.iconst 1, 1) := by decide +kernel
theorem dX5_bit_27 : decode cX5_bit 27 = .ok (.isub, 1) := by decide +kernel
theorem dX5_bit_28 : decode cX5_bit 28 = .ok (.putfield 27, 3) := by decide +kernel
theorem dX5_bit_31 : decode cX5_bit 31 = .ok (.aload_n 0, 1) := by decide +kernel
theorem dX5_bit_32 : decode cX5_bit 32 = .ok (.getfield 24, 3) := by decide +kernel
theorem dX5_bit_35 : decode cX5_bit 35 = .ok (.aload_n 0, 1) := by decide +kernel
theorem dX5_bit_36 : decode cX5_bit 36 = .ok (.getfield 27, 3) := by decide +kernel
theorem dX5_bit_39 : decode cX5_bit 39 = .ok (.ishr, 1) := by decide +kernel
theorem dX5_bit_40 : decode cX5_bit 40 = .ok (.iconst 1, 1) := by decide +kernel
theorem dX5_bit_41 : decode cX5_bit 41 = .ok (.iand, 1) := by decide +kernel
theorem dX5_bit_42 : decode cX5_bit 42 = .ok (.ireturn, 1) := by decide +kernel
theorem dX5_blame_0 : decode cX5_blame 0 = .ok (.aload_n 0, 1) := by decide +kernel
theorem dX5_blame_1 : decode cX5_blame 1 = .ok (.iload_n 1, 1) := by decide +kernel
theorem dX5_blame_2 : decode cX5_blame 2 = .ok (.aload_n 0, 1) := by decide +kernel
theorem dX5_blame_3 : decode cX5_blame 3 = .ok (.getfield 20, 3) := by decide +kernel
theorem dX5_blame_6 : decode cX5_blame 6 = .ok (.iconst 1, 1) := by decide +kernel
theorem dX5_blame_7 : decode cX5_blame 7 = .ok (.isub, 1) := by decide +kernel
theorem dX5_blame_8 : decode cX5_blame 8 = .ok (.invokevirtual 44, 3) := by decide +kernel
theorem dX5_blame_11 : decode cX5_blame 11 = .ok (.return_, 1) := by decide +kernel
theorem dX5_endBits_0 : decode cX5_endBits 0 = .ok (.aload_n 0, 1) := by decide +kernel
theorem dX5_endBits_1 : decode cX5_endBits 1 = .ok (.getfield 24, 3) := by decide +kernel
theorem dX5_endBits_4 : decode cX5_endBits 4 = .ok (.iconst 1, 1) := by decide +kernel
theorem dX5_endBits_5 : decode cX5_endBits 5 = .ok (.aload_n 0, 1) := by decide +kernel
theorem dX5_endBits_6 : decode cX5_endBits 6 = .ok (.getfield 27, 3) := by decide +kernel
theorem dX5_endBits_9 : decode cX5_endBits 9 = .ok (.ishl, 1) := by decide +kernel
theorem dX5_endBits_10 : decode cX5_endBits 10 = .ok (.iconst 1, 1) := by decide +kernel
theorem dX5_endBits_11 : decode cX5_endBits 11 = .ok (.isub, 1) := by decide +kernel
theorem dX5_endBits_12 : decode cX5_endBits 12 = .ok (.iand, 1) := by decide +kernel
theorem dX5_endBits_13 : decode cX5_endBits 13 = .ok (.ifCond .eq 8, 3) := by decide +kernel
theorem dX5_endBits_16 : decode cX5_endBits 16 = .ok (.aload_n 0, 1) := by decide +kernel
theorem dX5_endBits_17 : decode cX5_endBits 17 = .ok (.iconst 4, 1) := by decide +kernel
theorem dX5_endBits_18 : decode cX5_endBits 18 = .ok (.invokevirtual 55, 3) := by decide +kernel
theorem dX5_endBits_21 : decode cX5_endBits 21 = .ok (.return_, 1) := by decide +kernel
theorem dX5_endBytes_0 : decode cX5_endBytes 0 = .ok (.aload_n 0, 1) := by decide +kernel
theorem dX5_endBytes_1 : decode cX5_endBytes 1 = .ok (.getfield 14, 3) := by decide +kernel
theorem dX5_endBytes_4 : decode cX5_endBytes 4 = .ok (.aload_n 0, 1) := by decide +kernel
theorem dX5_endBytes_5 : decode cX5_endBytes 5 = .ok (.getfield 20, 3) := by decide +kernel
theorem dX5_endBytes_8 : decode cX5_endBytes 8 = .ok (.invokevirtual 36, 3) := by decide +kernel
theorem dX5_endBytes_11 : decode cX5_endBytes 11 = .ok (.ifCond .eq 12, 3) := by decide +kernel
theorem dX5_endBytes_14 : decode cX5_endBytes 14 = .ok (.aload_n 0, 1) := by decide +kernel
theorem dX5_endBytes_15 : decode cX5_endBytes 15 = .ok (.iconst 3, 1) := by decide +kernel
theorem dX5_endBytes_16 : decode cX5_endBytes 16 = .ok (.aload_n 0, 1) := by decide +kernel
theorem dX5_endBytes_17 : decode cX5_endBytes 17 = .ok (.getfield 20, 3) := by decide +kernel
theorem dX5_endBytes_20 : decode cX5_endBytes 20 = .ok (.invokevirtual 44, 3) := by decide +kernel
theorem dX5_endBytes_23 : decode cX5_endBytes 23 = .ok (.return_, 1) := by decide +kernel
theorem dX5_blameAt_0 : decode cX5_blameAt 0 = .ok (.aload_n 0, 1) := by decide +kernel
theorem dX5_blameAt_1 : decode cX5_blameAt 1 = .ok (.getfield 30, 3) := by decide +kernel
theorem dX5_blameAt_4 : decode cX5_blameAt 4 = .ok (.ifCond .ne 13, 3) := by decide +kernel
theorem dX5_blameAt_7 : decode cX5_blameAt 7 = .ok (.aload_n 0, 1) := by decide +kernel
theorem dX5_blameAt_8 : decode cX5_blameAt 8 = .ok (.iload_n 1, 1) := by decide +kernel
theorem dX5_blameAt_9 : decode cX5_blameAt 9 = .ok (.putfield 30, 3) := by decide +kernel
theorem dX5_blameAt_12 : decode cX5_blameAt 12 = .ok (.aload_n 0, 1) := by decide +kernel
theorem dX5_blameAt_13 : decode cX5_blameAt 13 = .ok (.iload_n 2, 1) := by decide +kernel
theorem dX5_blameAt_14 : decode cX5_blameAt 14 = .ok (.putfield 33, 3) := by decide +kernel
theorem dX5_blameAt_17 : decode cX5_blameAt 17 = .ok (.return_, 1) := by decide +kernel
theorem dX6_init_0 : decode cX6_init 0 = .ok (.aload_n 0, 1) := by decide +kernel
theorem dX6_init_1 : decode cX6_init 1 = .ok (.invokespecial 1, 3) := by decide +kernel
theorem dX6_init_4 : decode cX6_init 4 = .ok (.aload_n 0, 1) := by decide +kernel
theorem dX6_init_5 : decode cX6_init 5 = .ok (.iconst 0, 1) := by decide +kernel
theorem dX6_init_6 : decode cX6_init 6 = .ok (.putfield 7, 3) := by decide +kernel
theorem dX6_init_9 : decode cX6_init 9 = .ok (.aload_n 0, 1) := by decide +kernel
theorem dX6_init_10 : decode cX6_init 10 = .ok (.iload_n 1, 1) := by decide +kernel
theorem dX6_init_11 : decode cX6_init 11 = .ok (.ifCond .le 7, 3) := by decide +kernel
theorem dX6_init_14 : decode cX6_init 14 = .ok (.iload_n 1, 1) := by decide +kernel
theorem dX6_init_15 : decode cX6_init 15 = .ok (.goto 4, 3) := by decide +kernel
theorem dX6_init_18 : decode cX6_init 18 = .ok (.iconst 0, 1) := by decide +kernel
theorem dX6_init_19 : decode cX6_init 19 = .ok (.newarray .int, 2) := by decide +kernel
theorem dX6_init_21 : decode cX6_init 21 = .ok (.putfield 13, 3) := by decide +kernel
theorem dX6_init_24 : decode cX6_init 24 = .ok (.return_, 1) := by decide +kernel
theorem dX6_count_0 : decode cX6_count 0 = .ok (.aload_n 0, 1) := by decide +kernel
theorem dX6_count_1 : decode cX6_count 1 = .ok (.getfield 7, 3) := by decide +kernel
theorem dX6_count_4 : decode cX6_count 4 = .ok (.ireturn, 1) := by decide +kernel
theorem dX6_has_0 : decode cX6_has 0 = .ok (.iload_n 1, 1) := by decide +kernel
theorem dX6_has_1 : decode cX6_has 1 = .ok (.ifCond .lt 15, 3) := by decide +kernel
theorem dX6_has_4 : decode cX6_has 4 = .ok (.iload_n 1, 1) := by decide +kernel
theorem dX6_has_5 : decode cX6_has 5 = .ok (.aload_n 0, 1) := by decide +kernel
theorem dX6_has_6 : decode cX6_has 6 = .ok (.getfield 7, 3) := by decide +kernel
theorem dX6_has_9 : decode cX6_has 9 = .ok (.if_icmp .ge 7, 3) := by decide +kernel
theorem dX6_has_12 : decode cX6_has 12 = .ok (.iconst 1, 1) := by decide +kernel
theorem dX6_has_13 : decode cX6_has 13 = .ok (.goto 4, 3) := by decide +kernel
theorem dX6_has_16 : decode cX6_has 16 = .ok (.iconst 0, 1) := by decide +kernel
theorem dX6_has_17 : decode cX6_has 17 = .ok (.ireturn, 1) := by decide +kernel
theorem dX6_get_0 : decode cX6_get 0 = .ok (.iload_n 1, 1) := by decide +kernel
theorem dX6_get_1 : decode cX6_get 1 = .ok (.ifCond .lt 20, 3) := by decide +kernel
theorem dX6_get_4 : decode cX6_get 4 = .ok (.iload_n 1, 1) := by decide +kernel
theorem dX6_get_5 : decode cX6_get 5 = .ok (.aload_n 0, 1) := by decide +kernel
theorem dX6_get_6 : decode cX6_get 6 = .ok (.getfield 7, 3) := by decide +kernel
theorem dX6_get_9 : decode cX6_get 9 = .ok (.if_icmp .ge 12, 3) := by decide +kernel
theorem dX6_get_12 : decode cX6_get 12 = .ok (.aload_n 0, 1) := by decide +kernel
theorem dX6_get_13 : decode cX6_get 13 = .ok (.getfield 13, 3) := by decide +kernel
theorem dX6_get_16 : decode cX6_get 16 = .ok (.iload_n 1, 1) := by decide +kernel
theorem dX6_get_17 : decode cX6_get 17 = .ok (.iaload, 1) := by decide +kernel
theorem dX6_get_18 : decode cX6_get 18 = .ok (.goto 4, 3) := by decide +kernel
theorem dX6_get_21 : decode cX6_get 21 = .ok (.iconst 0, 1) := by decide +kernel
theorem dX6_get_22 : decode cX6_get 22 = .ok (.ireturn, 1) := by decide +kernel
theorem dX6_set_0 : decode cX6_set 0 = .ok (.iload_n 1, 1) := by decide +kernel
theorem dX6_set_1 : decode cX6_set 1 = .ok (.ifCond .lt 22, 3) := by decide +kernel
theorem dX6_set_4 : decode cX6_set 4 = .ok (.iload_n 1, 1) := by decide +kernel
theorem dX6_set_5 : decode cX6_set 5 = .ok (.aload_n 0, 1) := by decide +kernel
theorem dX6_set_6 : decode cX6_set 6 = .ok (.getfield 7, 3) := by decide +kernel
theorem dX6_set_9 : decode cX6_set 9 = .ok (.if_icmp .ge 14, 3) := by decide +kernel
theorem dX6_set_12 : decode cX6_set 12 = .ok (.aload_n 0, 1) := by decide +kernel
theorem dX6_set_13 : decode cX6_set 13 = .ok (.getfield 13, 3) := by decide +kernel
theorem dX6_set_16 : decode cX6_set 16 = .ok (.iload_n 1, 1) := by decide +kernel
theorem dX6_set_17 : decode cX6_set 17 = .ok (.iload_n 2, 1) := by decide +kernel
theorem dX6_set_18 : decode cX6_set 18 = .ok (.sipush 255, 3) := by decide +kernel
theorem dX6_set_21 : decode cX6_set 21 = .ok (.iand, 1) := by decide +kernel
theorem dX6_set_22 : decode cX6_set 22 = .ok (.iastore, 1) := by decide +kernel
theorem dX6_set_23 : decode cX6_set 23 = .ok (.return_, 1) := by decide +kernel
theorem dX6_push_0 : decode cX6_push 0 = .ok (.aload_n 0, 1) := by decide +kernel
theorem dX6_push_1 : decode cX6_push 1 = .ok (.getfield 7, 3) := by decide +kernel
theorem dX6_push_4 : decode cX6_push 4 = .ok (.aload_n 0, 1) := by decide +kernel
theorem dX6_push_5 : decode cX6_push 5 = .ok (.getfield 13, 3) := by decide +kernel
theorem dX6_push_8 : decode cX6_push 8 = .ok (.arraylength, 1) := by decide +kernel
theorem dX6_push_9 : decode cX6_push 9 = .ok (.if_icmp .ge 27, 3) := by decide +kernel
theorem dX6_push_12 : decode cX6_push 12 = .ok (.aload_n 0, 1) := by decide +kernel
theorem dX6_push_13 : decode cX6_push 13 = .ok (.getfield 13, 3) := by decide +kernel
theorem dX6_push_16 : decode cX6_push 16 = .ok (.aload_n 0, 1) := by decide +kernel
theorem dX6_push_17 : decode cX6_push 17 = .ok (.getfield 7, 3) := by decide +kernel
theorem dX6_push_20 : decode cX6_push 20 = .ok (.iload_n 1, 1) := by decide +kernel
theorem dX6_push_21 : decode cX6_push 21 = .ok (.sipush 255, 3) := by decide +kernel
theorem dX6_push_24 : decode cX6_push 24 = .ok (.iand, 1) := by decide +kernel
theorem dX6_push_25 : decode cX6_push 25 = .ok (.iastore, 1) := by decide +kernel
theorem dX6_push_26 : decode cX6_push 26 = .ok (.aload_n 0, 1) := by decide +kernel
theorem dX6_push_27 : decode cX6_push 27 = .ok (.dup, 1) := by decide +kernel
theorem dX6_push_28 : decode cX6_push 28 = .ok (.getfield 7, 3) := by decide +kernel
theorem dX6_push_31 : decode cX6_push 31 = .ok (.iconst 1, 1) := by decide +kernel
theorem dX6_push_32 : decode cX6_push 32 = .ok (.iadd, 1) := by decide +kernel
theorem dX6_push_33 : decode cX6_push 33 = .ok (.putfield 7, 3) := by decide +kernel
theorem dX6_push_36 : decode cX6_push 36 = .ok (.return_, 1) := by decide +kernel
theorem dX6_empty_0 : decode cX6_empty 0 = .ok (.aload_n 0, 1) := by decide +kernel
theorem dX6_empty_1 : decode cX6_empty 1 = .ok (.iconst 0, 1) := by decide +kernel
theorem dX6_empty_2 : decode cX6_empty 2 = .ok (.putfield 7, 3) := by decide +kernel
theorem dX6_empty_5 : decode cX6_empty 5 = .ok (.return_, 1) := by decide +kernel
theorem dX6_keep_0 : decode cX6_keep 0 = .ok (.iload_n 1, 1) := by decide +kernel
theorem dX6_keep_1 : decode cX6_keep 1 = .ok (.ifCond .lt 16, 3) := by decide +kernel
theorem dX6_keep_4 : decode cX6_keep 4 = .ok (.iload_n 1, 1) := by decide +kernel
theorem dX6_keep_5 : decode cX6_keep 5 = .ok (.aload_n 0, 1) := by decide +kernel
theorem dX6_keep_6 : decode cX6_keep 6 = .ok (.getfield 7, 3) := by decide +kernel
theorem dX6_keep_9 : decode cX6_keep 9 = .ok (.if_icmp .ge 8, 3) := by decide +kernel
theorem dX6_keep_12 : decode cX6_keep 12 = .ok (.aload_n 0, 1) := by decide +kernel
theorem dX6_keep_13 : decode cX6_keep 13 = .ok (.iload_n 1, 1) := by decide +kernel
theorem dX6_keep_14 : decode cX6_keep 14 = .ok (.putfield 7, 3) := by decide +kernel
theorem dX6_keep_17 : decode cX6_keep 17 = .ok (.return_, 1) := by decide +kernel
theorem dX6_become_0 : decode cX6_become 0 = .ok (.aload_n 0, 1) := by decide +kernel
theorem dX6_become_1 : decode cX6_become 1 = .ok (.aload_n 1, 1) := by decide +kernel
theorem dX6_become_2 : decode cX6_become 2 = .ok (.getfield 7, 3) := by decide +kernel
theorem dX6_become_5 : decode cX6_become 5 = .ok (.aload_n 0, 1) := by decide +kernel
theorem dX6_become_6 : decode cX6_become 6 = .ok (.getfield 13, 3) := by decide +kernel
theorem dX6_become_9 : decode cX6_become 9 = .ok (.arraylength, 1) := by decide +kernel
theorem dX6_become_10 : decode cX6_become 10 = .ok (.invokestatic 17, 3) := by decide +kernel
theorem dX6_become_13 : decode cX6_become 13 = .ok (.putfield 7, 3) := by decide +kernel
theorem dX6_become_16 : decode cX6_become 16 = .ok (.aload_n 1, 1) := by decide +kernel
theorem dX6_become_17 : decode cX6_become 17 = .ok (.getfield 13, 3) := by decide +kernel
theorem dX6_become_20 : decode cX6_become 20 = .ok (.iconst 0, 1) := by decide +kernel
theorem dX6_become_21 : decode cX6_become 21 = .ok (.aload_n 0, 1) := by decide +kernel
theorem dX6_become_22 : decode cX6_become 22 = .ok (.getfield 13, 3) := by decide +kernel
theorem dX6_become_25 : decode cX6_become 25 = .ok (.iconst 0, 1) := by decide +kernel
theorem dX6_become_26 : decode cX6_become 26 = .ok (.aload_n 0, 1) := by decide +kernel
theorem dX6_become_27 : decode cX6_become 27 = .ok (.getfield 7, 3) := by decide +kernel
theorem dX6_become_30 : decode cX6_become 30 = .ok (.invokestatic 23, 3) := by decide +kernel
theorem dX6_become_33 : decode cX6_become 33 = .ok (.return_, 1) := by decide +kernel
theorem dX6_countInto_0 : decode cX6_countInto 0 = .ok (.aload_n 1, 1) := by decide +kernel
theorem dX6_countInto_1 : decode cX6_countInto 1 = .ok (.iconst 0, 1) := by decide +kernel
theorem dX6_countInto_2 : decode cX6_countInto 2 = .ok (.invokestatic 29, 3) := by decide +kernel
theorem dX6_countInto_5 : decode cX6_countInto 5 = .ok (.iconst 0, 1) := by decide +kernel
theorem dX6_countInto_6 : decode cX6_countInto 6 = .ok (.istore_n 2, 1) := by decide +kernel
theorem dX6_countInto_7 : decode cX6_countInto 7 = .ok (.iconst 0, 1) := by decide +kernel
theorem dX6_countInto_8 : decode cX6_countInto 8 = .ok (.istore_n 3, 1) := by decide +kernel
theorem dX6_countInto_9 : decode cX6_countInto 9 = .ok (.iload_n 3, 1) := by decide +kernel
theorem dX6_countInto_10 : decode cX6_countInto 10 = .ok (.aload_n 0, 1) := by decide +kernel
theorem dX6_countInto_11 : decode cX6_countInto 11 = .ok (.getfield 7, 3) := by decide +kernel
theorem dX6_countInto_14 : decode cX6_countInto 14 = .ok (.if_icmp .ge 50, 3) := by decide +kernel
theorem dX6_countInto_17 : decode cX6_countInto 17 = .ok (.aload_n 0, 1) := by decide +kernel
theorem dX6_countInto_18 : decode cX6_countInto 18 = .ok (.getfield 13, 3) := by decide +kernel
theorem dX6_countInto_21 : decode cX6_countInto 21 = .ok (.iload_n 3, 1) := by decide +kernel
theorem dX6_countInto_22 : decode cX6_countInto 22 = .ok (.iaload, 1) := by decide +kernel
theorem dX6_countInto_23 : decode cX6_countInto 23 = .ok (.istore 4, 2) := by decide +kernel
theorem dX6_countInto_25 : decode cX6_countInto 25 = .ok (.iload 4, 2) := by decide +kernel
theorem dX6_countInto_27 : decode cX6_countInto 27 = .ok (.ifCond .lt 31, 3) := by decide +kernel
theorem dX6_countInto_30 : decode cX6_countInto 30 = .ok (.iload 4, 2) := by decide +kernel
theorem dX6_countInto_32 : decode cX6_countInto 32 = .ok (.aload_n 1, 1) := by decide +kernel
theorem dX6_countInto_33 : decode cX6_countInto 33 = .ok (.arraylength, 1) := by decide +kernel
theorem dX6_countInto_34 : decode cX6_countInto 34 = .ok (.if_icmp .lt 6, 3) := by decide +kernel
theorem dX6_countInto_37 : decode cX6_countInto 37 = .ok (.goto 21, 3) := by decide +kernel
theorem dX6_countInto_40 : decode cX6_countInto 40 = .ok (.aload_n 1, 1) := by decide +kernel
theorem dX6_countInto_41 : decode cX6_countInto 41 = .ok (.iload 4, 2) := by decide +kernel
theorem dX6_countInto_43 : decode cX6_countInto 43 = .ok (.iaload, 1) := by decide +kernel
theorem dX6_countInto_44 : decode cX6_countInto 44 = .ok (.ifCond .ne 6, 3) := by decide +kernel
theorem dX6_countInto_47 : decode cX6_countInto 47 = .ok (.iinc 2 1, 3) := by decide +kernel
theorem dX6_countInto_50 : decode cX6_countInto 50 = .ok (.aload_n 1, 1) := by decide +kernel
theorem dX6_countInto_51 : decode cX6_countInto 51 = .ok (.iload 4, 2) := by decide +kernel
theorem dX6_countInto_53 : decode cX6_countInto 53 = .ok (.dup2, 1) := by decide +kernel
theorem dX6_countInto_54 : decode cX6_countInto 54 = .ok (.iaload, 1) := by decide +kernel
theorem dX6_countInto_55 : decode cX6_countInto 55 = .ok (.iconst 1, 1) := by decide +kernel
theorem dX6_countInto_56 : decode cX6_countInto 56 = .ok (.iadd, 1) := by decide +kernel
theorem dX6_countInto_57 : decode cX6_countInto 57 = .ok (.iastore, 1) := by decide +kernel
theorem dX6_countInto_58 : decode cX6_countInto 58 = .ok (.iinc 3 1, 3) := by decide +kernel
theorem dX6_countInto_61 : decode cX6_countInto 61 = .ok (.goto (-52), 3) := by decide +kernel
theorem dX6_countInto_64 : decode cX6_countInto 64 = .ok (.iload_n 2, 1) := by decide +kernel
theorem dX6_countInto_65 : decode cX6_countInto 65 = .ok (.ireturn, 1) := by decide +kernel
theorem dX7_init_0 : decode cX7_init 0 = .ok (.aload_n 0, 1) := by decide +kernel
theorem dX7_init_1 : decode cX7_init 1 = .ok (.invokespecial 3, 3) := by decide +kernel
theorem dX7_init_4 : decode cX7_init 4 = .ok (.aload_n 0, 1) := by decide +kernel
theorem dX7_init_5 : decode cX7_init 5 = .ok (.sipush 256, 3) := by decide +kernel
theorem dX7_init_8 : decode cX7_init 8 = .ok (.newarray .int, 2) := by decide +kernel
theorem dX7_init_10 : decode cX7_init 10 = .ok (.putfield 9, 3) := by decide +kernel
theorem dX7_init_13 : decode cX7_init 13 = .ok (.return_, 1) := by decide +kernel
theorem dX7_isFlat_0 : decode cX7_isFlat 0 = .ok (.aload_n 1, 1) := by decide +kernel
theorem dX7_isFlat_1 : decode cX7_isFlat 1 = .ok (.invokevirtual 15, 3) := by decide +kernel
theorem dX7_isFlat_4 : decode cX7_isFlat 4 = .ok (.istore_n 2, 1) := by decide +kernel
theorem dX7_isFlat_5 : decode cX7_isFlat 5 = .ok (.iload_n 2, 1) := by decide +kernel
theorem dX7_isFlat_6 : decode cX7_isFlat 6 = .ok (.bipush 64, 2) := by decide +kernel
theorem dX7_isFlat_8 : decode cX7_isFlat 8 = .ok (.if_icmp .ge 5, 3) := by decide +kernel
theorem dX7_isFlat_11 : decode cX7_isFlat 11 = .ok (.iconst 0, 1) := by decide +kernel
theorem dX7_isFlat_12 : decode cX7_isFlat 12 = .ok (.ireturn, 1) := by decide +kernel
theorem dX7_isFlat_13 : decode cX7_isFlat 13 = .ok (.aload_n 1, 1) := by decide +kernel
theorem dX7_isFlat_14 : decode cX7_isFlat 14 = .ok (.aload_n 0, 1) := by decide +kernel
theorem dX7_isFlat_15 : decode cX7_isFlat 15 = .ok (.getfield 9, 3) := by decide +kernel
theorem dX7_isFlat_18 : decode cX7_isFlat 18 = .ok (.invokevirtual 21, 3) := by decide +kernel
theorem dX7_isFlat_21 : decode cX7_isFlat 21 = .ok (.pop, 1) := by decide +kernel
theorem dX7_isFlat_22 : decode cX7_isFlat 22 = .ok (.iconst 0, 1) := by decide +kernel
theorem dX7_isFlat_23 : decode cX7_isFlat 23 = .ok (.istore_n 3, 1) := by decide +kernel
theorem dX7_isFlat_24 : decode cX7_isFlat 24 = .ok (.iload_n 3, 1) := by decide +kernel
theorem dX7_isFlat_25 : decode cX7_isFlat 25 = .ok (.sipush 256, 3) := by decide +kernel
theorem dX7_isFlat_28 : decode cX7_isFlat 28 = .ok (.if_icmp .ge 26, 3) := by decide +kernel
theorem dX7_isFlat_31 : decode cX7_isFlat 31 = .ok (.aload_n 0, 1) := by decide +kernel
theorem dX7_isFlat_32 : decode cX7_isFlat 32 = .ok (.getfield 9, 3) := by decide +kernel
theorem dX7_isFlat_35 : decode cX7_isFlat 35 = .ok (.iload_n 3, 1) := by decide +kernel
theorem dX7_isFlat_36 : decode cX7_isFlat 36 = .ok (.iaload, 1) := by decide +kernel
theorem dX7_isFlat_37 : decode cX7_isFlat 37 = .ok (.iconst 2, 1) := by decide +kernel
theorem dX7_isFlat_38 : decode cX7_isFlat 38 = .ok (.iload_n 2, 1) := by decide +kernel
theorem dX7_isFlat_39 : decode cX7_isFlat 39 = .ok (.bipush 32, 2) := by decide +kernel
theorem dX7_isFlat_41 : decode cX7_isFlat 41 = .ok (.idiv, 1) := by decide +kernel
theorem dX7_isFlat_42 : decode cX7_isFlat 42 = .ok (.iadd, 1) := by decide +kernel
theorem dX7_isFlat_43 : decode cX7_isFlat 43 = .ok (.if_icmp .le 5, 3) := by decide +kernel
theorem dX7_isFlat_46 : decode cX7_isFlat 46 = .ok (.iconst 0, 1) := by decide +kernel
theorem dX7_isFlat_47 : decode cX7_isFlat 47 = .ok (.ireturn, 1) := by decide +kernel
theorem dX7_isFlat_48 : decode cX7_isFlat 48 = .ok (.iinc 3 1, 3) := by decide +kernel
theorem dX7_isFlat_51 : decode cX7_isFlat 51 = .ok (.goto (-27), 3) := by decide +kernel
theorem dX7_isFlat_54 : decode cX7_isFlat 54 = .ok (.iconst 1, 1) := by decide +kernel
theorem dX7_isFlat_55 : decode cX7_isFlat 55 = .ok (.ireturn, 1) := by decide +kernel
theorem dX7_featureOf_0 : decode cX7_featureOf 0 = .ok (.iconst 0, 1) := by decide +kernel
theorem dX7_featureOf_1 : decode cX7_featureOf 1 = .ok (.istore_n 2, 1) := by decide +kernel
theorem dX7_featureOf_2 : decode cX7_featureOf 2 = .ok (.iconst 0, 1) := by decide +kernel
theorem dX7_featureOf_3 : decode cX7_featureOf 3 = .ok (.istore_n 3, 1) := by decide +kernel
theorem dX7_featureOf_4 : decode cX7_featureOf 4 = .ok (.iconst 1, 1) := by decide +kernel
theorem dX7_featureOf_5 : decode cX7_featureOf 5 = .ok (.istore 4, 2) := by decide +kernel
theorem dX7_featureOf_7 : decode cX7_featureOf 7 = .ok (.iload 4, 2) := by decide +kernel
theorem dX7_featureOf_9 : decode cX7_featureOf 9 = .ok (.aload_n 1, 1) := by decide +kernel
theorem dX7_featureOf_10 : decode cX7_featureOf 10 = .ok (.invokevirtual 15, 3) := by decide +kernel
theorem dX7_featureOf_13 : decode cX7_featureOf 13 = .ok (.if_icmp .ge 49, 3) := by decide +kernel
theorem dX7_featureOf_16 : decode cX7_featureOf 16 = .ok (.aload_n 1, 1) := by decide +kernel
theorem dX7_featureOf_17 : decode cX7_featureOf 17 = .ok (.iload 4, 2) := by decide +kernel
theorem dX7_featureOf_19 : decode cX7_featureOf 19 = .ok (.invokevirtual 25, 3) := by decide +kernel
theorem dX7_featureOf_22 : decode cX7_featureOf 22 = .ok (.aload_n 1, 1) := by decide +kernel
theorem dX7_featureOf_23 : decode cX7_featureOf 23 = .ok (.iload 4, 2) := by decide +kernel
theorem dX7_featureOf_25 : decode cX7_featureOf 25 = .ok (.iconst 1, 1) := by decide +kernel
theorem dX7_featureOf_26 : decode cX7_featureOf 26 = .ok (.isub, 1) := by decide +kernel
theorem dX7_featureOf_27 : decode cX7_featureOf 27 = .ok (.invokevirtual 25, 3) := by decide +kernel
theorem dX7_featureOf_30 : decode cX7_featureOf 30 = .ok (.isub, 1) := by decide +kernel
theorem dX7_featureOf_31 : decode cX7_featureOf 31 = .ok (.invokestatic 29, 3) := by decide +kernel
theorem dX7_featureOf_34 : decode cX7_featureOf 34 = .ok (.istore 5, 2) := by decide +kernel
theorem dX7_featureOf_36 : decode cX7_featureOf 36 = .ok (.iload 5, 2) := by decide +kernel
theorem dX7_featureOf_38 : decode cX7_featureOf 38 = .ok (.ifCond .ne 9, 3) := by decide +kernel
theorem dX7_featureOf_41 : decode cX7_featureOf 41 = .ok (.iinc 2 1, 3) := by decide +kernel
theorem dX7_featureOf_44 : decode cX7_featureOf 44 = .ok (.goto 12, 3) := by decide +kernel
theorem dX7_featureOf_47 : decode cX7_featureOf 47 = .ok (.iload 5, 2) := by decide +kernel
theorem dX7_featureOf_49 : decode cX7_featureOf 49 = .ok (.iconst 2, 1) := by decide +kernel
theorem dX7_featureOf_50 : decode cX7_featureOf 50 = .ok (.if_icmp .gt 6, 3) := by decide +kernel
theorem dX7_featureOf_53 : decode cX7_featureOf 53 = .ok (.iinc 3 1, 3) := by decide +kernel
theorem dX7_featureOf_56 : decode cX7_featureOf 56 = .ok (.iinc 4 1, 3) := by decide +kernel
theorem dX7_featureOf_59 : decode cX7_featureOf 59 = .ok (.goto (-52), 3) := by decide +kernel
theorem dX7_featureOf_62 : decode cX7_featureOf 62 = .ok (.bipush 16, 2) := by decide +kernel
theorem dX7_featureOf_64 : decode cX7_featureOf 64 = .ok (.aload_n 0, 1) := by decide +kernel
theorem dX7_featureOf_65 : decode cX7_featureOf 65 = .ok (.aload_n 1, 1) := by decide +kernel
theorem dX7_featureOf_66 : decode cX7_featureOf 66 = .ok (.invokevirtual 34, 3) := by decide +kernel
theorem dX7_featureOf_69 : decode cX7_featureOf 69 = .ok (.imul, 1) := by decide +kernel
theorem dX7_featureOf_70 : decode cX7_featureOf 70 = .ok (.iconst 4, 1) := by decide +kernel
theorem dX7_featureOf_71 : decode cX7_featureOf 71 = .ok (.iload_n 2, 1) := by decide +kernel
theorem dX7_featureOf_72 : decode cX7_featureOf 72 = .ok (.aload_n 1, 1) := by decide +kernel
theorem dX7_featureOf_73 : decode cX7_featureOf 73 = .ok (.invokevirtual 15, 3) := by decide +kernel
theorem dX7_featureOf_76 : decode cX7_featureOf 76 = .ok (.invokestatic 38, 3) := by decide +kernel
theorem dX7_featureOf_79 : decode cX7_featureOf 79 = .ok (.imul, 1) := by decide +kernel
theorem dX7_featureOf_80 : decode cX7_featureOf 80 = .ok (.iadd, 1) := by decide +kernel
theorem dX7_featureOf_81 : decode cX7_featureOf 81 = .ok (.iload_n 3, 1) := by decide +kernel
theorem dX7_featureOf_82 : decode cX7_featureOf 82 = .ok (.aload_n 1, 1) := by decide +kernel
theorem dX7_featureOf_83 : decode cX7_featureOf 83 = .ok (.invokevirtual 15, 3) := by decide +kernel
theorem dX7_featureOf_86 : decode cX7_featureOf 86 = .ok (.invokestatic 38, 3) := by decide +kernel
theorem dX7_featureOf_89 : decode cX7_featureOf 89 = .ok (.iadd, 1) := by decide +kernel
theorem dX7_featureOf_90 : decode cX7_featureOf 90 = .ok (.ireturn, 1) := by decide +kernel
theorem dX7_variety_0 : decode cX7_variety 0 = .ok (.aload_n 1, 1) := by decide +kernel
theorem dX7_variety_1 : decode cX7_variety 1 = .ok (.aload_n 0, 1) := by decide +kernel
theorem dX7_variety_2 : decode cX7_variety 2 = .ok (.getfield 9, 3) := by decide +kernel
theorem dX7_variety_5 : decode cX7_variety 5 = .ok (.invokevirtual 21, 3) := by decide +kernel
theorem dX7_variety_8 : decode cX7_variety 8 = .ok (.istore_n 2, 1) := by decide +kernel
theorem dX7_variety_9 : decode cX7_variety 9 = .ok (.iload_n 2, 1) := by decide +kernel
theorem dX7_variety_10 : decode cX7_variety 10 = .ok (.iconst 2, 1) := by decide +kernel
theorem dX7_variety_11 : decode cX7_variety 11 = .ok (.if_icmp .gt 5, 3) := by decide +kernel
theorem dX7_variety_14 : decode cX7_variety 14 = .ok (.iconst 0, 1) := by decide +kernel
theorem dX7_variety_15 : decode cX7_variety 15 = .ok (.ireturn, 1) := by decide +kernel
theorem dX7_variety_16 : decode cX7_variety 16 = .ok (.iload_n 2, 1) := by decide +kernel
theorem dX7_variety_17 : decode cX7_variety 17 = .ok (.bipush 16, 2) := by decide +kernel
theorem dX7_variety_19 : decode cX7_variety 19 = .ok (.if_icmp .gt 5, 3) := by decide +kernel
theorem dX7_variety_22 : decode cX7_variety 22 = .ok (.iconst 1, 1) := by decide +kernel
theorem dX7_variety_23 : decode cX7_variety 23 = .ok (.ireturn, 1) := by decide +kernel
theorem dX7_variety_24 : decode cX7_variety 24 = .ok (.iload_n 2, 1) := by decide +kernel
theorem dX7_variety_25 : decode cX7_variety 25 = .ok (.bipush 64, 2) := by decide +kernel
theorem dX7_variety_27 : decode cX7_variety 27 = .ok (.if_icmp .gt 7, 3) := by decide +kernel
theorem dX7_variety_30 : decode cX7_variety 30 = .ok (.iconst 2, 1) := by decide +kernel
theorem dX7_variety_31 : decode cX7_variety 31 = .ok (.goto 4, 3) := by decide +kernel
theorem dX7_variety_34 : decode cX7_variety 34 = .ok (.iconst 3, 1) := by decide +kernel
theorem dX7_variety_35 : decode cX7_variety 35 = .ok (.ireturn, 1) := by decide +kernel
theorem dX7_quarters_0 : decode cX7_quarters 0 = .ok (.iload_n 1, 1) := by decide +kernel
theorem dX7_quarters_1 : decode cX7_quarters 1 = .ok (.ifCond .gt 7, 3) := by decide +kernel
theorem dX7_quarters_4 : decode cX7_quarters 4 = .ok (.iconst 0, 1) := by decide +kernel
theorem dX7_quarters_5 : decode cX7_quarters 5 = .ok (.goto 12, 3) := by decide +kernel
theorem dX7_quarters_8 : decode cX7_quarters 8 = .ok (.iconst 3, 1) := by decide +kernel
theorem dX7_quarters_9 : decode cX7_quarters 9 = .ok (.iconst 4, 1) := by decide +kernel
theorem dX7_quarters_10 : decode cX7_quarters 10 = .ok (.iload_n 0, 1) := by decide +kernel
theorem dX7_quarters_11 : decode cX7_quarters 11 = .ok (.imul, 1) := by decide +kernel
theorem dX7_quarters_12 : decode cX7_quarters 12 = .ok (.iload_n 1, 1) := by decide +kernel
theorem dX7_quarters_13 : decode cX7_quarters 13 = .ok (.idiv, 1) := by decide +kernel
theorem dX7_quarters_14 : decode cX7_quarters 14 = .ok (.invokestatic 42, 3) := by decide +kernel
theorem dX7_quarters_17 : decode cX7_quarters 17 = .ok (.ireturn, 1) := by decide +kernel
theorem dX8_init_0 : decode cX8_init 0 = .ok (.aload_n 0, 1) := by decide +kernel
theorem dX8_init_1 : decode cX8_init 1 = .ok (.invokespecial 3, 3) := by decide +kernel
theorem dX8_init_4 : decode cX8_init 4 = .ok (.aload_n 0, 1) := by decide +kernel
theorem dX8_init_5 : decode cX8_init 5 = .ok (.sipush 512, 3) := by decide +kernel
theorem dX8_init_8 : decode cX8_init 8 = .ok (.newarray .int, 2) := by decide +kernel
theorem dX8_init_10 : decode cX8_init 10 = .ok (.putfield 9, 3) := by decide +kernel
theorem dX8_init_13 : decode cX8_init 13 = .ok (.aload_n 0, 1) := by decide +kernel
theorem dX8_init_14 : decode cX8_init 14 = .ok (.sipush 512, 3) := by decide +kernel
theorem dX8_init_17 : decode cX8_init 17 = .ok (.newarray .int, 2) := by decide +kernel
theorem dX8_init_19 : decode cX8_init 19 = .ok (.putfield 15, 3) := by decide +kernel
theorem dX8_init_22 : decode cX8_init 22 = .ok (.aload_n 0, 1) := by decide +kernel
theorem dX8_init_23 : decode cX8_init 23 = .ok (.sipush 512, 3) := by decide +kernel
theorem dX8_init_26 : decode cX8_init 26 = .ok (.newarray .int, 2) := by decide +kernel
theorem dX8_init_28 : decode cX8_init 28 = .ok (.putfield 18, 3) := by decide +kernel
theorem dX8_init_31 : decode cX8_init 31 = .ok (.aload_n 0, 1) := by decide +kernel
theorem dX8_init_32 : decode cX8_init 32 = .ok (.sipush 256, 3) := by decide +kernel
theorem dX8_init_35 : decode cX8_init 35 = .ok (.newarray .int, 2) := by decide +kernel
theorem dX8_init_37 : decode cX8_init 37 = .ok (.putfield 21, 3) := by decide +kernel
theorem dX8_init_40 : decode cX8_init 40 = .ok (.aload_n 0, 1) := by decide +kernel
theorem dX8_init_41 : decode cX8_init 41 = .ok (.iconst 0, 1) := by decide +kernel
theorem dX8_init_42 : decode cX8_init 42 = .ok (.putfield 24, 3) := by decide +kernel
theorem dX8_init_45 : decode cX8_init 45 = .ok (.aload_n 0, 1) := by decide +kernel
theorem dX8_init_46 : decode cX8_init 46 = .ok (.iconst 0, 1) := by decide +kernel
theorem dX8_init_47 : decode cX8_init 47 = .ok (.putfield 28, 3) := by decide +kernel
theorem dX8_init_50 : decode cX8_init 50 = .ok (.aload_n 0, 1) := by decide +kernel
theorem dX8_init_51 : decode cX8_init 51 = .ok (.iconst 0, 1) := by decide +kernel
theorem dX8_init_52 : decode cX8_init 52 = .ok (.putfield 31, 3) := by decide +kernel
theorem dX8_init_55 : decode cX8_init 55 = .ok (.return_, 1) := by decide +kernel
theorem dX8_grow_0 : decode cX8_grow 0 = .ok (.aload_n 2, 1) := by decide +kernel
theorem dX8_grow_1 : decode cX8_grow 1 = .ok (.invokevirtual 34, 3) := by decide +kernel
theorem dX8_grow_4 : decode cX8_grow 4 = .ok (.aload_n 0, 1) := by decide +kernel
theorem dX8_grow_5 : decode cX8_grow 5 = .ok (.aload_n 1, 1) := by decide +kernel
theorem dX8_grow_6 : decode cX8_grow 6 = .ok (.invokevirtual 39, 3) := by decide +kernel
theorem dX8_grow_9 : decode cX8_grow 9 = .ok (.aload_n 0, 1) := by decide +kernel
theorem dX8_grow_10 : decode cX8_grow 10 = .ok (.getfield 24, 3) := by decide +kernel
theorem dX8_grow_13 : decode cX8_grow 13 = .ok (.iconst 1, 1) := by decide +kernel
theorem dX8_grow_14 : decode cX8_grow 14 = .ok (.if_icmp .ne 17, 3) := by decide +kernel
theorem dX8_grow_17 : decode cX8_grow 17 = .ok (.aload_n 2, 1) := by decide +kernel
theorem dX8_grow_18 : decode cX8_grow 18 = .ok (.aload_n 0, 1) := by decide +kernel
theorem dX8_grow_19 : decode cX8_grow 19 = .ok (.getfield 21, 3) := by decide +kernel
theorem dX8_grow_22 : decode cX8_grow 22 = .ok (.iconst 0, 1) := by decide +kernel
theorem dX8_grow_23 : decode cX8_grow 23 = .ok (.iaload, 1) := by decide +kernel
theorem dX8_grow_24 : decode cX8_grow 24 = .ok (.iconst 1, 1) := by decide +kernel
theorem dX8_grow_25 : decode cX8_grow 25 = .ok (.invokevirtual 43, 3) := by decide +kernel
theorem dX8_grow_28 : decode cX8_grow 28 = .ok (.goto 20, 3) := by decide +kernel
theorem dX8_grow_31 : decode cX8_grow 31 = .ok (.aload_n 0, 1) := by decide +kernel
theorem dX8_grow_32 : decode cX8_grow 32 = .ok (.getfield 24, 3) := by decide +kernel
theorem dX8_grow_35 : decode cX8_grow 35 = .ok (.iconst 1, 1) := by decide +kernel
theorem dX8_grow_36 : decode cX8_grow 36 = .ok (.if_icmp .le 12, 3) := by decide +kernel
theorem dX8_grow_39 : decode cX8_grow 39 = .ok (.aload_n 0, 1) := by decide +kernel
theorem dX8_grow_40 : decode cX8_grow 40 = .ok (.invokevirtual 47, 3) := by decide +kernel
theorem dX8_grow_43 : decode cX8_grow 43 = .ok (.aload_n 0, 1) := by decide +kernel
theorem dX8_grow_44 : decode cX8_grow 44 = .ok (.aload_n 2, 1) := by decide +kernel
theorem dX8_grow_45 : decode cX8_grow 45 = .ok (.invokevirtual 50, 3) := by decide +kernel
theorem dX8_grow_48 : decode cX8_grow 48 = .ok (.return_, 1) := by decide +kernel
theorem dX8_sortLeaves_0 : decode cX8_sortLeaves 0 = .ok (.aload_n 0, 1) := by decide +kernel
theorem dX8_sortLeaves_1 : decode cX8_sortLeaves 1 = .ok (.iconst 0, 1) := by decide +kernel
theorem dX8_sortLeaves_2 : decode cX8_sortLeaves 2 = .ok (.putfield 24, 3) := by decide +kernel
theorem dX8_sortLeaves_5 : decode cX8_sortLeaves 5 = .ok (.iconst 0, 1) := by decide +kernel
theorem dX8_sortLeaves_6 : decode cX8_sortLeaves 6 = .ok (.istore_n 2, 1) := by decide +kernel
theorem dX8_sortLeaves_7 : decode cX8_sortLeaves 7 = .ok (.iload_n 2, 1) := by decide +kernel
theorem dX8_sortLeaves_8 : decode cX8_sortLeaves 8 = .ok (.sipush 256, 3) := by decide +kernel
theorem dX8_sortLeaves_11 : decode cX8_sortLeaves 11 = .ok (.if_icmp .ge 107, 3) := by decide +kernel
theorem dX8_sortLeaves_14 : decode cX8_sortLeaves 14 = .ok (.iload_n 2, 1) := by decide +kernel
theorem dX8_sortLeaves_15 : decode cX8_sortLeaves 15 = .ok (.aload_n 1, 1) := by decide +kernel
theorem dX8_sortLeaves_16 : decode cX8_sortLeaves 16 = .ok (.arraylength, 1) := by decide +kernel
theorem dX8_sortLeaves_17 : decode cX8_sortLeaves 17 = .ok (.if_icmp .ge 101, 3) := by decide +kernel
theorem dX8_sortLeaves_20 : decode cX8_sortLeaves 20 = .ok (.aload_n 1, 1) := by decide +kernel
theorem dX8_sortLeaves_21 : decode cX8_sortLeaves 21 = .ok (.iload_n 2, 1) := by decide +kernel
theorem dX8_sortLeaves_22 : decode cX8_sortLeaves 22 = .ok (.iaload, 1) := by decide +kernel
theorem dX8_sortLeaves_23 : decode cX8_sortLeaves 23 = .ok (.ifCond .gt 6, 3) := by decide +kernel
theorem dX8_sortLeaves_26 : decode cX8_sortLeaves 26 = .ok (.goto 86, 3) := by decide +kernel
theorem dX8_sortLeaves_29 : decode cX8_sortLeaves 29 = .ok (.aload_n 0, 1) := by decide +kernel
theorem dX8_sortLeaves_30 : decode cX8_sortLeaves 30 = .ok (.getfield 24, 3) := by decide +kernel
theorem dX8_sortLeaves_33 : decode cX8_sortLeaves 33 = .ok (.istore_n 3, 1) := by decide +kernel
theorem dX8_sortLeaves_34 : decode cX8_sortLeaves 34 = .ok (.iload_n 3, 1) := by decide +kernel
theorem dX8_sortLeaves_35 : decode cX8_sortLeaves 35 = .ok (.ifCond .le 51, 3) := by decide +kernel
theorem dX8_sortLeaves_38 : decode cX8_sortLeaves 38 = .ok (.aload_n 0, 1) := by decide +kernel
theorem dX8_sortLeaves_39 : decode cX8_sortLeaves 39 = .ok (.getfield 9, 3) := by decide +kernel
theorem dX8_sortLeaves_42 : decode cX8_sortLeaves 42 = .ok (.iload_n 3, 1) := by decide +kernel
theorem dX8_sortLeaves_43 : decode cX8_sortLeaves 43 = .ok (.iconst 1, 1) := by decide +kernel
theorem dX8_sortLeaves_44 : decode cX8_sortLeaves 44 = .ok (.isub, 1) := by decide +kernel
theorem dX8_sortLeaves_45 : decode cX8_sortLeaves 45 = .ok (.iaload, 1) := by decide +kernel
theorem dX8_sortLeaves_46 : decode cX8_sortLeaves 46 = .ok (.aload_n 1, 1) := by decide +kernel
theorem dX8_sortLeaves_47 : decode cX8_sortLeaves 47 = .ok (.iload_n 2, 1) := by decide +kernel
theorem dX8_sortLeaves_48 : decode cX8_sortLeaves 48 = .ok (.iaload, 1) := by decide +kernel
theorem dX8_sortLeaves_49 : decode cX8_sortLeaves 49 = .ok (.if_icmp .le 37, 3) := by decide +kernel
theorem dX8_sortLeaves_52 : decode cX8_sortLeaves 52 = .ok (.aload_n 0, 1) := by decide +kernel
theorem dX8_sortLeaves_53 : decode cX8_sortLeaves 53 = .ok (.getfield 9, 3) := by decide +kernel
theorem dX8_sortLeaves_56 : decode cX8_sortLeaves 56 = .ok (.iload_n 3, 1) := by decide +kernel
theorem dX8_sortLeaves_57 : decode cX8_sortLeaves 57 = .ok (.aload_n 0, 1) := by decide +kernel
theorem dX8_sortLeaves_58 : decode cX8_sortLeaves 58 = .ok (.getfield 9, 3) := by decide +kernel
theorem dX8_sortLeaves_61 : decode cX8_sortLeaves 61 = .ok (.iload_n 3, 1) := by decide +kernel
theorem dX8_sortLeaves_62 : decode cX8_sortLeaves 62 = .ok (.iconst 1, 1) := by decide +kernel
theorem dX8_sortLeaves_63 : decode cX8_sortLeaves 63 = .ok (.isub, 1) := by decide +kernel
theorem dX8_sortLeaves_64 : decode cX8_sortLeaves 64 = .ok (.iaload, 1) := by decide +kernel
theorem dX8_sortLeaves_65 : decode cX8_sortLeaves 65 = .ok (.iastore, 1) := by decide +kernel
theorem dX8_sortLeaves_66 : decode cX8_sortLeaves 66 = .ok (.aload_n 0, 1) := by decide +kernel
theorem dX8_sortLeaves_67 : decode cX8_sortLeaves 67 = .ok (.getfield 21, 3) := by decide +kernel
theorem dX8_sortLeaves_70 : decode cX8_sortLeaves 70 = .ok (.iload_n 3, 1) := by decide +kernel
theorem dX8_sortLeaves_71 : decode cX8_sortLeaves 71 = .ok (.aload_n 0, 1) := by decide +kernel
theorem dX8_sortLeaves_72 : decode cX8_sortLeaves 72 = .ok (.getfield 21, 3) := by decide +kernel
theorem dX8_sortLeaves_75 : decode cX8_sortLeaves 75 = .ok (.iload_n 3, 1) := by decide +kernel
theorem dX8_sortLeaves_76 : decode cX8_sortLeaves 76 = .ok (.iconst 1, 1) := by decide +kernel
theorem dX8_sortLeaves_77 : decode cX8_sortLeaves 77 = .ok (.isub, 1) := by decide +kernel
theorem dX8_sortLeaves_78 : decode cX8_sortLeaves 78 = .ok (.iaload, 1) := by decide +kernel
theorem dX8_sortLeaves_79 : decode cX8_sortLeaves 79 = .ok (.iastore, 1) := by decide +kernel
theorem dX8_sortLeaves_80 : decode cX8_sortLeaves 80 = .ok (.iinc 3 (-1), 3) := by decide +kernel
theorem dX8_sortLeaves_83 : decode cX8_sortLeaves 83 = .ok (.goto (-49), 3) := by decide +kernel
theorem dX8_sortLeaves_86 : decode cX8_sortLeaves 86 = .ok (.aload_n 0, 1) := by decide +kernel
theorem dX8_sortLeaves_87 : decode cX8_sortLeaves 87 = .ok (.getfield 9, 3) := by decide +kernel
theorem dX8_sortLeaves_90 : decode cX8_sortLeaves 90 = .ok (.iload_n 3, 1) := by decide +kernel
theorem dX8_sortLeaves_91 : decode cX8_sortLeaves 91 = .ok (.aload_n 1, 1) := by decide +kernel
theorem dX8_sortLeaves_92 : decode cX8_sortLeaves 92 = .ok (.iload_n 2, 1) := by decide +kernel
theorem dX8_sortLeaves_93 : decode cX8_sortLeaves 93 = .ok (.iaload, 1) := by decide +kernel
theorem dX8_sortLeaves_94 : decode cX8_sortLeaves 94 = .ok (.iastore, 1) := by decide +kernel
theorem dX8_sortLeaves_95 : decode cX8_sortLeaves 95 = .ok (.aload_n 0, 1) := by decide +kernel
theorem dX8_sortLeaves_96 : decode cX8_sortLeaves 96 = .ok (.getfield 21, 3) := by decide +kernel
theorem dX8_sortLeaves_99 : decode cX8_sortLeaves 99 = .ok (.iload_n 3, 1) := by decide +kernel
theorem dX8_sortLeaves_100 : decode cX8_sortLeaves 100 = .ok (.iload_n 2, 1) := by decide +kernel
theorem dX8_sortLeaves_101 : decode cX8_sortLeaves 101 = .ok (.iastore, 1) := by decide +kernel
theorem dX8_sortLeaves_102 : decode cX8_sortLeaves 102 = .ok (.aload_n 0, 1) := by decide +kernel
theorem dX8_sortLeaves_103 : decode cX8_sortLeaves 103 = .ok (.dup, 1) := by decide +kernel
theorem dX8_sortLeaves_104 : decode cX8_sortLeaves 104 = .ok (.getfield 24, 3) := by decide +kernel
theorem dX8_sortLeaves_107 : decode cX8_sortLeaves 107 = .ok (.iconst 1, 1) := by decide +kernel
theorem dX8_sortLeaves_108 : decode cX8_sortLeaves 108 = .ok (.iadd, 1) := by decide +kernel
theorem dX8_sortLeaves_109 : decode cX8_sortLeaves 109 = .ok (.putfield 24, 3) := by decide +kernel
theorem dX8_sortLeaves_112 : decode cX8_sortLeaves 112 = .ok (.iinc 2 1, 3) := by decide +kernel
theorem dX8_sortLeaves_115 : decode cX8_sortLeaves 115 = .ok (.goto (-108), 3) := by decide +kernel
theorem dX8_sortLeaves_118 : decode cX8_sortLeaves 118 = .ok (.return_, 1) := by decide +kernel
theorem dX8_join_0 : decode cX8_join 0 = .ok (.aload_n 0, 1) := by decide +kernel
theorem dX8_join_1 : decode cX8_join 1 = .ok (.iconst 0, 1) := by decide +kernel
theorem dX8_join_2 : decode cX8_join 2 = .ok (.putfield 28, 3) := by decide +kernel
theorem dX8_join_5 : decode cX8_join 5 = .ok (.aload_n 0, 1) := by decide +kernel
theorem dX8_join_6 : decode cX8_join 6 = .ok (.aload_n 0, 1) := by decide +kernel
theorem dX8_join_7 : decode cX8_join 7 = .ok (.getfield 24, 3) := by decide +kernel
theorem dX8_join_10 : decode cX8_join 10 = .ok (.putfield 31, 3) := by decide +kernel
theorem dX8_join_13 : decode cX8_join 13 = .ok (.aload_n 0, 1) := by decide +kernel
theorem dX8_join_14 : decode cX8_join 14 = .ok (.getfield 24, 3) := by decide +kernel
theorem dX8_join_17 : decode cX8_join 17 = .ok (.istore_n 1, 1) := by decide +kernel
theorem dX8_join_18 : decode cX8_join 18 = .ok (.iload_n 1, 1) := by decide +kernel
theorem dX8_join_19 : decode cX8_join 19 = .ok (.iconst 2, 1) := by decide +kernel
theorem dX8_join_20 : decode cX8_join 20 = .ok (.aload_n 0, 1) := by decide +kernel
theorem dX8_join_21 : decode cX8_join 21 = .ok (.getfield 24, 3) := by decide +kernel
theorem dX8_join_24 : decode cX8_join 24 = .ok (.imul, 1) := by decide +kernel
theorem dX8_join_25 : decode cX8_join 25 = .ok (.iconst 1, 1) := by decide +kernel
theorem dX8_join_26 : decode cX8_join 26 = .ok (.isub, 1) := by decide +kernel
theorem dX8_join_27 : decode cX8_join 27 = .ok (.if_icmp .ge 63, 3) := by decide +kernel
theorem dX8_join_30 : decode cX8_join 30 = .ok (.iload_n 1, 1) := by decide +kernel
theorem dX8_join_31 : decode cX8_join 31 = .ok (.aload_n 0, 1) := by decide +kernel
theorem dX8_join_32 : decode cX8_join 32 = .ok (.getfield 9, 3) := by decide +kernel
theorem dX8_join_35 : decode cX8_join 35 = .ok (.arraylength, 1) := by decide +kernel
theorem dX8_join_36 : decode cX8_join 36 = .ok (.if_icmp .ge 54, 3) := by decide +kernel
theorem dX8_join_39 : decode cX8_join 39 = .ok (.aload_n 0, 1) := by decide +kernel
theorem dX8_join_40 : decode cX8_join 40 = .ok (.iload_n 1, 1) := by decide +kernel
theorem dX8_join_41 : decode cX8_join 41 = .ok (.invokevirtual 54, 3) := by decide +kernel
theorem dX8_join_44 : decode cX8_join 44 = .ok (.istore_n 2, 1) := by decide +kernel
theorem dX8_join_45 : decode cX8_join 45 = .ok (.aload_n 0, 1) := by decide +kernel
theorem dX8_join_46 : decode cX8_join 46 = .ok (.iload_n 1, 1) := by decide +kernel
theorem dX8_join_47 : decode cX8_join 47 = .ok (.invokevirtual 54, 3) := by decide +kernel
theorem dX8_join_50 : decode cX8_join 50 = .ok (.istore_n 3, 1) := by decide +kernel
theorem dX8_join_51 : decode cX8_join 51 = .ok (.aload_n 0, 1) := by decide +kernel
theorem dX8_join_52 : decode cX8_join 52 = .ok (.getfield 9, 3) := by decide +kernel
theorem dX8_join_55 : decode cX8_join 55 = .ok (.iload_n 1, 1) := by decide +kernel
theorem dX8_join_56 : decode cX8_join 56 = .ok (.aload_n 0, 1) := by decide +kernel
theorem dX8_join_57 : decode cX8_join 57 = .ok (.getfield 9, 3) := by decide +kernel
theorem dX8_join_60 : decode cX8_join 60 = .ok (.iload_n 2, 1) := by decide +kernel
theorem dX8_join_61 : decode cX8_join 61 = .ok (.iaload, 1) := by decide +kernel
theorem dX8_join_62 : decode cX8_join 62 = .ok (.aload_n 0, 1) := by decide +kernel
theorem dX8_join_63 : decode cX8_join 63 = .ok (.getfield 9, 3) := by decide +kernel
theorem dX8_join_66 : decode cX8_join 66 = .ok (.iload_n 3, 1) := by decide +kernel
theorem dX8_join_67 : decode cX8_join 67 = .ok (.iaload, 1) := by decide +kernel
theorem dX8_join_68 : decode cX8_join 68 = .ok (.iadd, 1) := by decide +kernel
theorem dX8_join_69 : decode cX8_join 69 = .ok (.iastore, 1) := by decide +kernel
theorem dX8_join_70 : decode cX8_join 70 = .ok (.aload_n 0, 1) := by decide +kernel
theorem dX8_join_71 : decode cX8_join 71 = .ok (.getfield 15, 3) := by decide +kernel
theorem dX8_join_74 : decode cX8_join 74 = .ok (.iload_n 2, 1) := by decide +kernel
theorem dX8_join_75 : decode cX8_join 75 = .ok (.iload_n 1, 1) := by decide +kernel
theorem dX8_join_76 : decode cX8_join 76 = .ok (.iastore, 1) := by decide +kernel
theorem dX8_join_77 : decode cX8_join 77 = .ok (.aload_n 0, 1) := by decide +kernel
theorem dX8_join_78 : decode cX8_join 78 = .ok (.getfield 15, 3) := by decide +kernel
theorem dX8_join_81 : decode cX8_join 81 = .ok (.iload_n 3, 1) := by decide +kernel
theorem dX8_join_82 : decode cX8_join 82 = .ok (.iload_n 1, 1) := by decide +kernel
theorem dX8_join_83 : decode cX8_join 83 = .ok (.iastore, 1) := by decide +kernel
theorem dX8_join_84 : decode cX8_join 84 = .ok (.iinc 1 1, 3) := by decide +kernel
theorem dX8_join_87 : decode cX8_join 87 = .ok (.goto (-69), 3) := by decide +kernel
theorem dX8_join_90 : decode cX8_join 90 = .ok (.return_, 1) := by decide +kernel
theorem dX8_takeLeast_0 : decode cX8_takeLeast 0 = .ok (.aload_n 0, 1) := by decide +kernel
theorem dX8_takeLeast_1 : decode cX8_takeLeast 1 = .ok (.getfield 28, 3) := by decide +kernel
theorem dX8_takeLeast_4 : decode cX8_takeLeast 4 = .ok (.aload_n 0, 1) := by decide +kernel
theorem dX8_takeLeast_5 : decode cX8_takeLeast 5 = .ok (.getfield 24, 3) := by decide +kernel
theorem dX8_takeLeast_8 : decode cX8_takeLeast 8 = .ok (.if_icmp .ge 7, 3) := by decide +kernel
theorem dX8_takeLeast_11 : decode cX8_takeLeast 11 = .ok (.iconst 1, 1) := by decide +kernel
theorem dX8_takeLeast_12 : decode cX8_takeLeast 12 = .ok (.goto 4, 3) := by decide +kernel
theorem dX8_takeLeast_15 : decode cX8_takeLeast 15 = .ok (.iconst 0, 1) := by decide +kernel
theorem dX8_takeLeast_16 : decode cX8_takeLeast 16 = .ok (.istore_n 2, 1) := by decide +kernel
theorem dX8_takeLeast_17 : decode cX8_takeLeast 17 = .ok (.aload_n 0, 1) := by decide +kernel
theorem dX8_takeLeast_18 : decode cX8_takeLeast 18 = .ok (.getfield 31, 3) := by decide +kernel
theorem dX8_takeLeast_21 : decode cX8_takeLeast 21 = .ok (.iload_n 1, 1) := by decide +kernel
theorem dX8_takeLeast_22 : decode cX8_takeLeast 22 = .ok (.if_icmp .ge 16, 3) := by decide +kernel
theorem dX8_takeLeast_25 : decode cX8_takeLeast 25 = .ok (.iload_n 1, 1) := by decide +kernel
theorem dX8_takeLeast_26 : decode cX8_takeLeast 26 = .ok (.aload_n 0, 1) := by decide +kernel
theorem dX8_takeLeast_27 : decode cX8_takeLeast 27 = .ok (.getfield 9, 3) := by decide +kernel
theorem dX8_takeLeast_30 : decode cX8_takeLeast 30 = .ok (.arraylength, 1) := by decide +kernel
theorem dX8_takeLeast_31 : decode cX8_takeLeast 31 = .ok (.if_icmp .gt 7, 3) := by decide +kernel
theorem dX8_takeLeast_34 : decode cX8_takeLeast 34 = .ok (.iconst 1, 1) := by decide +kernel
theorem dX8_takeLeast_35 : decode cX8_takeLeast 35 = .ok (.goto 4, 3) := by decide +kernel
theorem dX8_takeLeast_38 : decode cX8_takeLeast 38 = .ok (.iconst 0, 1) := by decide +kernel
theorem dX8_takeLeast_39 : decode cX8_takeLeast 39 = .ok (.istore_n 3, 1) := by decide +kernel
theorem dX8_takeLeast_40 : decode cX8_takeLeast 40 = .ok (.iload_n 2, 1) := by decide +kernel
theorem dX8_takeLeast_41 : decode cX8_takeLeast 41 = .ok (.ifCond .eq 45, 3) := by decide +kernel
theorem dX8_takeLeast_44 : decode cX8_takeLeast 44 = .ok (.iload_n 3, 1) := by decide +kernel
theorem dX8_takeLeast_45 : decode cX8_takeLeast 45 = .ok (.ifCond .eq 24, 3) := by decide +kernel
theorem dX8_takeLeast_48 : decode cX8_takeLeast 48 = .ok (.aload_n 0, 1) := by decide +kernel
theorem dX8_takeLeast_49 : decode cX8_takeLeast 49 = .ok (.getfield 9, 3) := by decide +kernel
theorem dX8_takeLeast_52 : decode cX8_takeLeast 52 = .ok (.aload_n 0, 1) := by decide +kernel
theorem dX8_takeLeast_53 : decode cX8_takeLeast 53 = .ok (.getfield 28, 3) := by decide +kernel
theorem dX8_takeLeast_56 : decode cX8_takeLeast 56 = .ok (.iaload, 1) := by decide +kernel
theorem dX8_takeLeast_57 : decode cX8_takeLeast 57 = .ok (.aload_n 0, 1) := by decide +kernel
theorem dX8_takeLeast_58 : decode cX8_takeLeast 58 = .ok (.getfield 9, 3) := by decide +kernel
theorem dX8_takeLeast_61 : decode cX8_takeLeast 61 = .ok (.aload_n 0, 1) := by decide +kernel
theorem dX8_takeLeast_62 : decode cX8_takeLeast 62 = .ok (.getfield 31, 3) := by decide +kernel
theorem dX8_takeLeast_65 : decode cX8_takeLeast 65 = .ok (.iaload, 1) := by decide +kernel
theorem dX8_takeLeast_66 : decode cX8_takeLeast 66 = .ok (.if_icmp .gt 20, 3) := by decide +kernel
theorem dX8_takeLeast_69 : decode cX8_takeLeast 69 = .ok (.aload_n 0, 1) := by decide +kernel
theorem dX8_takeLeast_70 : decode cX8_takeLeast 70 = .ok (.dup, 1) := by decide +kernel
theorem dX8_takeLeast_71 : decode cX8_takeLeast 71 = .ok (.getfield 28, 3) := by decide +kernel
theorem dX8_takeLeast_74 : decode cX8_takeLeast 74 = .ok (.iconst 1, 1) := by decide +kernel
theorem dX8_takeLeast_75 : decode cX8_takeLeast 75 = .ok (.iadd, 1) := by decide +kernel
theorem dX8_takeLeast_76 : decode cX8_takeLeast 76 = .ok (.putfield 28, 3) := by decide +kernel
theorem dX8_takeLeast_79 : decode cX8_takeLeast 79 = .ok (.aload_n 0, 1) := by decide +kernel
theorem dX8_takeLeast_80 : decode cX8_takeLeast 80 = .ok (.getfield 28, 3) := by decide +kernel
theorem dX8_takeLeast_83 : decode cX8_takeLeast 83 = .ok (.iconst 1, 1) := by decide +kernel
theorem dX8_takeLeast_84 : decode cX8_takeLeast 84 = .ok (.isub, 1) := by decide +kernel
theorem dX8_takeLeast_85 : decode cX8_takeLeast 85 = .ok (.ireturn, 1) := by decide +kernel
theorem dX8_takeLeast_86 : decode cX8_takeLeast 86 = .ok (.iload_n 3, 1) := by decide +kernel
theorem dX8_takeLeast_87 : decode cX8_takeLeast 87 = .ok (.ifCond .ne 5, 3) := by decide +kernel
theorem dX8_takeLeast_90 : decode cX8_takeLeast 90 = .ok (.iconst 0, 1) := by decide +kernel
theorem dX8_takeLeast_91 : decode cX8_takeLeast 91 = .ok (.ireturn, 1) := by decide +kernel
theorem dX8_takeLeast_92 : decode cX8_takeLeast 92 = .ok (.aload_n 0, 1) := by decide +kernel
theorem dX8_takeLeast_93 : decode cX8_takeLeast 93 = .ok (.dup, 1) := by decide +kernel
theorem dX8_takeLeast_94 : decode cX8_takeLeast 94 = .ok (.getfield 31, 3) := by decide +kernel
theorem dX8_takeLeast_97 : decode cX8_takeLeast 97 = .ok (.iconst 1, 1) := by decide +kernel
theorem dX8_takeLeast_98 : decode cX8_takeLeast 98 = .ok (.iadd, 1) := by decide +kernel
theorem dX8_takeLeast_99 : decode cX8_takeLeast 99 = .ok (.putfield 31, 3) := by decide +kernel
theorem dX8_takeLeast_102 : decode cX8_takeLeast 102 = .ok (.aload_n 0, 1) := by decide +kernel
theorem dX8_takeLeast_103 : decode cX8_takeLeast 103 = .ok (.getfield 31, 3) := by decide +kernel
theorem dX8_takeLeast_106 : decode cX8_takeLeast 106 = .ok (.iconst 1, 1) := by decide +kernel
theorem dX8_takeLeast_107 : decode cX8_takeLeast 107 = .ok (.isub, 1) := by decide +kernel
theorem dX8_takeLeast_108 : decode cX8_takeLeast 108 = .ok (.ireturn, 1) := by decide +kernel
theorem dX8_measure_0 : decode cX8_measure 0 = .ok (.iconst 2, 1) := by decide +kernel
theorem dX8_measure_1 : decode cX8_measure 1 = .ok (.aload_n 0, 1) := by decide +kernel
theorem dX8_measure_2 : decode cX8_measure 2 = .ok (.getfield 24, 3) := by decide +kernel
theorem dX8_measure_5 : decode cX8_measure 5 = .ok (.imul, 1) := by decide +kernel
theorem dX8_measure_6 : decode cX8_measure 6 = .ok (.aload_n 0, 1) := by decide +kernel
theorem dX8_measure_7 : decode cX8_measure 7 = .ok (.getfield 18, 3) := by decide +kernel
theorem dX8_measure_10 : decode cX8_measure 10 = .ok (.arraylength, 1) := by decide +kernel
theorem dX8_measure_11 : decode cX8_measure 11 = .ok (.invokestatic 58, 3) := by decide +kernel
theorem dX8_measure_14 : decode cX8_measure 14 = .ok (.iconst 2, 1) := by decide +kernel
theorem dX8_measure_15 : decode cX8_measure 15 = .ok (.isub, 1) := by decide +kernel
theorem dX8_measure_16 : decode cX8_measure 16 = .ok (.istore_n 2, 1) := by decide +kernel
theorem dX8_measure_17 : decode cX8_measure 17 = .ok (.aload_n 0, 1) := by decide +kernel
theorem dX8_measure_18 : decode cX8_measure 18 = .ok (.getfield 18, 3) := by decide +kernel
theorem dX8_measure_21 : decode cX8_measure 21 = .ok (.iload_n 2, 1) := by decide +kernel
theorem dX8_measure_22 : decode cX8_measure 22 = .ok (.iconst 0, 1) := by decide +kernel
theorem dX8_measure_23 : decode cX8_measure 23 = .ok (.iastore, 1) := by decide +kernel
theorem dX8_measure_24 : decode cX8_measure 24 = .ok (.iload_n 2, 1) := by decide +kernel
theorem dX8_measure_25 : decode cX8_measure 25 = .ok (.iconst 1, 1) := by decide +kernel
theorem dX8_measure_26 : decode cX8_measure 26 = .ok (.isub, 1) := by decide +kernel
theorem dX8_measure_27 : decode cX8_measure 27 = .ok (.istore_n 3, 1) := by decide +kernel
theorem dX8_measure_28 : decode cX8_measure 28 = .ok (.iload_n 3, 1) := by decide +kernel
theorem dX8_measure_29 : decode cX8_measure 29 = .ok (.ifCond .lt 60, 3) := by decide +kernel
theorem dX8_measure_32 : decode cX8_measure 32 = .ok (.aload_n 0, 1) := by decide +kernel
theorem dX8_measure_33 : decode cX8_measure 33 = .ok (.getfield 18, 3) := by decide +kernel
theorem dX8_measure_36 : decode cX8_measure 36 = .ok (.iload_n 3, 1) := by decide +kernel
theorem dX8_measure_37 : decode cX8_measure 37 = .ok (.aload_n 0, 1) := by decide +kernel
theorem dX8_measure_38 : decode cX8_measure 38 = .ok (.getfield 18, 3) := by decide +kernel
theorem dX8_measure_41 : decode cX8_measure 41 = .ok (.aload_n 0, 1) := by decide +kernel
theorem dX8_measure_42 : decode cX8_measure 42 = .ok (.getfield 15, 3) := by decide +kernel
theorem dX8_measure_45 : decode cX8_measure 45 = .ok (.iload_n 3, 1) := by decide +kernel
theorem dX8_measure_46 : decode cX8_measure 46 = .ok (.iaload, 1) := by decide +kernel
theorem dX8_measure_47 : decode cX8_measure 47 = .ok (.iconst 0, 1) := by decide +kernel
theorem dX8_measure_48 : decode cX8_measure 48 = .ok (.invokestatic 64, 3) := by decide +kernel
theorem dX8_measure_51 : decode cX8_measure 51 = .ok (.iload_n 2, 1) := by decide +kernel
theorem dX8_measure_52 : decode cX8_measure 52 = .ok (.invokestatic 58, 3) := by decide +kernel
theorem dX8_measure_55 : decode cX8_measure 55 = .ok (.iaload, 1) := by decide +kernel
theorem dX8_measure_56 : decode cX8_measure 56 = .ok (.iconst 1, 1) := by decide +kernel
theorem dX8_measure_57 : decode cX8_measure 57 = .ok (.iadd, 1) := by decide +kernel
theorem dX8_measure_58 : decode cX8_measure 58 = .ok (.iastore, 1) := by decide +kernel
theorem dX8_measure_59 : decode cX8_measure 59 = .ok (.iload_n 3, 1) := by decide +kernel
theorem dX8_measure_60 : decode cX8_measure 60 = .ok (.aload_n 0, 1) := by decide +kernel
theorem dX8_measure_61 : decode cX8_measure 61 = .ok (.getfield 24, 3) := by decide +kernel
theorem dX8_measure_64 : decode cX8_measure 64 = .ok (.if_icmp .ge 19, 3) := by decide +kernel
theorem dX8_measure_67 : decode cX8_measure 67 = .ok (.aload_n 1, 1) := by decide +kernel
theorem dX8_measure_68 : decode cX8_measure 68 = .ok (.aload_n 0, 1) := by decide +kernel
theorem dX8_measure_69 : decode cX8_measure 69 = .ok (.getfield 21, 3) := by decide +kernel
theorem dX8_measure_72 : decode cX8_measure 72 = .ok (.iload_n 3, 1) := by decide +kernel
theorem dX8_measure_73 : decode cX8_measure 73 = .ok (.iaload, 1) := by decide +kernel
theorem dX8_measure_74 : decode cX8_measure 74 = .ok (.aload_n 0, 1) := by decide +kernel
theorem dX8_measure_75 : decode cX8_measure 75 = .ok (.getfield 18, 3) := by decide +kernel
theorem dX8_measure_78 : decode cX8_measure 78 = .ok (.iload_n 3, 1) := by decide +kernel
theorem dX8_measure_79 : decode cX8_measure 79 = .ok (.iaload, 1) := by decide +kernel
theorem dX8_measure_80 : decode cX8_measure 80 = .ok (.invokevirtual 43, 3) := by decide +kernel
theorem dX8_measure_83 : decode cX8_measure 83 = .ok (.iinc 3 (-1), 3) := by decide +kernel
theorem dX8_measure_86 : decode cX8_measure 86 = .ok (.goto (-58), 3) := by decide +kernel
theorem dX8_measure_89 : decode cX8_measure 89 = .ok (.return_, 1) := by decide +kernel
theorem dX9_init_0 : decode cX9_init 0 = .ok (.aload_n 0, 1) := by decide +kernel
theorem dX9_init_1 : decode cX9_init 1 = .ok (.invokespecial 3, 3) := by decide +kernel
theorem dX9_init_4 : decode cX9_init 4 = .ok (.aload_n 0, 1) := by decide +kernel
theorem dX9_init_5 : decode cX9_init 5 = .ok (.new 9, 3) := by decide +kernel
theorem dX9_init_8 : decode cX9_init 8 = .ok (.dup, 1) := by decide +kernel
theorem dX9_init_9 : decode cX9_init 9 = .ok (.invokespecial 11, 3) := by decide +kernel
theorem dX9_init_12 : decode cX9_init 12 = .ok (.putfield 12, 3) := by decide +kernel
theorem dX9_init_15 : decode cX9_init 15 = .ok (.aload_n 0, 1) := by decide +kernel
theorem dX9_init_16 : decode cX9_init 16 = .ok (.iconst 2, 1) := by decide +kernel
theorem dX9_init_17 : decode cX9_init 17 = .ok (.newarray .int, 2) := by decide +kernel
theorem dX9_init_19 : decode cX9_init 19 = .ok (.putfield 18, 3) := by decide +kernel
theorem dX9_init_22 : decode cX9_init 22 = .ok (.aload_n 0, 1) := by decide +kernel
theorem dX9_init_23 : decode cX9_init 23 = .ok (.iconst 2, 1) := by decide +kernel
theorem dX9_init_24 : decode cX9_init 24 = .ok (.newarray .int, 2) := by decide +kernel
theorem dX9_init_26 : decode cX9_init 26 = .ok (.putfield 22, 3) := by decide +kernel
theorem dX9_init_29 : decode cX9_init 29 = .ok (.aload_n 0, 1) := by decide +kernel
theorem dX9_init_30 : decode cX9_init 30 = .ok (.sipush 256, 3) := by decide +kernel
theorem dX9_init_33 : decode cX9_init 33 = .ok (.newarray .int, 2) := by decide +kernel
theorem dX9_init_35 : decode cX9_init 35 = .ok (.putfield 25, 3) := by decide +kernel
theorem dX9_init_38 : decode cX9_init 38 = .ok (.aload_n 0, 1) := by decide +kernel
theorem dX9_init_39 : decode cX9_init 39 = .ok (.new 28, 3) := by decide +kernel
theorem dX9_init_42 : decode cX9_init 42 = .ok (.dup, 1) := by decide +kernel
theorem dX9_init_43 : decode cX9_init 43 = .ok (.invokespecial 30, 3) := by decide +kernel
theorem dX9_init_46 : decode cX9_init 46 = .ok (.putfield 31, 3) := by decide +kernel
theorem dX9_init_49 : decode cX9_init 49 = .ok (.aload_n 0, 1) := by decide +kernel
theorem dX9_init_50 : decode cX9_init 50 = .ok (.new 35, 3) := by decide +kernel
theorem dX9_init_53 : decode cX9_init 53 = .ok (.dup, 1) := by decide +kernel
theorem dX9_init_54 : decode cX9_init 54 = .ok (.invokespecial 37, 3) := by decide +kernel
theorem dX9_init_57 : decode cX9_init 57 = .ok (.putfield 38, 3) := by decide +kernel
theorem dX9_init_60 : decode cX9_init 60 = .ok (.aload_n 0, 1) := by decide +kernel
theorem dX9_init_61 : decode cX9_init 61 = .ok (.new 42, 3) := by decide +kernel
theorem dX9_init_64 : decode cX9_init 64 = .ok (.dup, 1) := by decide +kernel
theorem dX9_init_65 : decode cX9_init 65 = .ok (.sipush 300, 3) := by decide +kernel
theorem dX9_init_68 : decode cX9_init 68 = .ok (.invokespecial 44, 3) := by decide +kernel
theorem dX9_init_71 : decode cX9_init 71 = .ok (.putfield 47, 3) := by decide +kernel
theorem dX9_init_74 : decode cX9_init 74 = .ok (.aload_n 0, 1) := by decide +kernel
theorem dX9_init_75 : decode cX9_init 75 = .ok (.new 42, 3) := by decide +kernel
theorem dX9_init_78 : decode cX9_init 78 = .ok (.dup, 1) := by decide +kernel
theorem dX9_init_79 : decode cX9_init 79 = .ok (.sipush 300, 3) := by decide +kernel
theorem dX9_init_82 : decode cX9_init 82 = .ok (.invokespecial 44, 3) := by decide +kernel
theorem dX9_init_85 : decode cX9_init 85 = .ok (.putfield 51, 3) := by decide +kernel
theorem dX9_init_88 : decode cX9_init 88 = .ok (.aload_n 0, 1) := by decide +kernel
theorem dX9_init_89 : decode cX9_init 89 = .ok (.iconst 0, 1) := by decide +kernel
theorem dX9_init_90 : decode cX9_init 90 = .ok (.putfield 54, 3) := by decide +kernel
theorem dX9_init_93 : decode cX9_init 93 = .ok (.aload_n 0, 1) := by decide +kernel
theorem dX9_init_94 : decode cX9_init 94 = .ok (.iconst 0, 1) := by decide +kernel
theorem dX9_init_95 : decode cX9_init 95 = .ok (.putfield 58, 3) := by decide +kernel
theorem dX9_init_98 : decode cX9_init 98 = .ok (.aload_n 0, 1) := by decide +kernel
theorem dX9_init_99 : decode cX9_init 99 = .ok (.iconst 0, 1) := by decide +kernel
theorem dX9_init_100 : decode cX9_init 100 = .ok (.putfield 61, 3) := by decide +kernel
theorem dX9_init_103 : decode cX9_init 103 = .ok (.return_, 1) := by decide +kernel
theorem dX9_faultPlace_0 : decode cX9_faultPlace 0 = .ok (.aload_n 0, 1) := by decide +kernel
theorem dX9_faultPlace_1 : decode cX9_faultPlace 1 = .ok (.getfield 12, 3) := by decide +kernel
theorem dX9_faultPlace_4 : decode cX9_faultPlace 4 = .ok (.invokevirtual 64, 3) := by decide +kernel
theorem dX9_faultPlace_7 : decode cX9_faultPlace 7 = .ok (.ireturn, 1) := by decide +kernel
theorem dX9_readHead_0 : decode cX9_readHead 0 = .ok (.aload_n 0, 1) := by decide +kernel
theorem dX9_readHead_1 : decode cX9_readHead 1 = .ok (.getfield 12, 3) := by decide +kernel
theorem dX9_readHead_4 : decode cX9_readHead 4 = .ok (.aload_n 1, 1) := by decide +kernel
theorem dX9_readHead_5 : decode cX9_readHead 5 = .ok (.invokevirtual 68, 3) := by decide +kernel
theorem dX9_readHead_8 : decode cX9_readHead 8 = .ok (.aload_n 0, 1) := by decide +kernel
theorem dX9_readHead_9 : decode cX9_readHead 9 = .ok (.getfield 47, 3) := by decide +kernel
theorem dX9_readHead_12 : decode cX9_readHead 12 = .ok (.invokevirtual 72, 3) := by decide +kernel
theorem dX9_readHead_15 : decode cX9_readHead 15 = .ok (.aload_n 0, 1) := by decide +kernel
theorem dX9_readHead_16 : decode cX9_readHead 16 = .ok (.invokevirtual 75, 3) := by decide +kernel
theorem dX9_readHead_19 : decode cX9_readHead 19 = .ok (.aload_n 0, 1) := by decide +kernel
theorem dX9_readHead_20 : decode cX9_readHead 20 = .ok (.aload_n 0, 1) := by decide +kernel
theorem dX9_readHead_21 : decode cX9_readHead 21 = .ok (.getfield 12, 3) := by decide +kernel
theorem dX9_readHead_24 : decode cX9_readHead 24 = .ok (.invokevirtual 78, 3) := by decide +kernel
theorem dX9_readHead_27 : decode cX9_readHead 27 = .ok (.putfield 58, 3) := by decide +kernel
theorem dX9_readHead_30 : decode cX9_readHead 30 = .ok (.aload_n 0, 1) := by decide +kernel
theorem dX9_readHead_31 : decode cX9_readHead 31 = .ok (.getfield 58, 3) := by decide +kernel
theorem dX9_readHead_34 : decode cX9_readHead 34 = .ok (.iconst 4, 1) := by decide +kernel
theorem dX9_readHead_35 : decode cX9_readHead 35 = .ok (.if_icmp .le 11, 3) := by decide +kernel
theorem dX9_readHead_38 : decode cX9_readHead 38 = .ok (.aload_n 0, 1) := by decide +kernel
theorem dX9_readHead_39 : decode cX9_readHead 39 = .ok (.getfield 12, 3) := by decide +kernel
theorem dX9_readHead_42 : decode cX9_readHead 42 = .ok (.iconst 1, 1) := by decide +kernel
theorem dX9_readHead_43 : decode cX9_readHead 43 = .ok (.invokevirtual 81, 3) := by decide +kernel
theorem dX9_readHead_46 : decode cX9_readHead 46 = .ok (.aload_n 0, 1) := by decide +kernel
theorem dX9_readHead_47 : decode cX9_readHead 47 = .ok (.getfield 12, 3) := by decide +kernel
theorem dX9_readHead_50 : decode cX9_readHead 50 = .ok (.invokevirtual 78, 3) := by decide +kernel
theorem dX9_readHead_53 : decode cX9_readHead 53 = .ok (.istore_n 2, 1) := by decide +kernel
theorem dX9_readHead_54 : decode cX9_readHead 54 = .ok (.aload_n 0, 1) := by decide +kernel
theorem dX9_readHead_55 : decode cX9_readHead 55 = .ok (.iload_n 2, 1) := by decide +kernel
theorem dX9_readHead_56 : decode cX9_readHead 56 = .ok (.bipush 8, 2) := by decide +kernel
theorem dX9_readHead_58 : decode cX9_readHead 58 = .ok (.ishl, 1) := by decide +kernel
theorem dX9_readHead_59 : decode cX9_readHead 59 = .ok (.aload_n 0, 1) := by decide +kernel
theorem dX9_readHead_60 : decode cX9_readHead 60 = .ok (.getfield 12, 3) := by decide +kernel
theorem dX9_readHead_63 : decode cX9_readHead 63 = .ok (.invokevirtual 78, 3) := by decide +kernel
theorem dX9_readHead_66 : decode cX9_readHead 66 = .ok (.ior, 1) := by decide +kernel
theorem dX9_readHead_67 : decode cX9_readHead 67 = .ok (.putfield 61, 3) := by decide +kernel
theorem dX9_readHead_70 : decode cX9_readHead 70 = .ok (.aload_n 0, 1) := by decide +kernel
theorem dX9_readHead_71 : decode cX9_readHead 71 = .ok (.getfield 61, 3) := by decide +kernel
theorem dX9_readHead_74 : decode cX9_readHead 74 = .ok (.sipush 300, 3) := by decide +kernel
theorem dX9_readHead_77 : decode cX9_readHead 77 = .ok (.if_icmp .le 11, 3) := by decide +kernel
theorem dX9_readHead_80 : decode cX9_readHead 80 = .ok (.aload_n 0, 1) := by decide +kernel
theorem dX9_readHead_81 : decode cX9_readHead 81 = .ok (.getfield 12, 3) := by decide +kernel
theorem dX9_readHead_84 : decode cX9_readHead 84 = .ok (.iconst 1, 1) := by decide +kernel
theorem dX9_readHead_85 : decode cX9_readHead 85 = .ok (.invokevirtual 81, 3) := by decide +kernel
theorem dX9_readHead_88 : decode cX9_readHead 88 = .ok (.return_, 1) := by decide +kernel
theorem dX9_readFilters_0 : decode cX9_readFilters 0 = .ok (.aload_n 0, 1) := by decide +kernel
theorem dX9_readFilters_1 : decode cX9_readFilters 1 = .ok (.aload_n 0, 1) := by decide +kernel
theorem dX9_readFilters_2 : decode cX9_readFilters 2 = .ok (.getfield 12, 3) := by decide +kernel
theorem dX9_readFilters_5 : decode cX9_readFilters 5 = .ok (.invokevirtual 78, 3) := by decide +kernel
theorem dX9_readFilters_8 : decode cX9_readFilters 8 = .ok (.putfield 54, 3) := by decide +kernel
theorem dX9_readFilters_11 : decode cX9_readFilters 11 = .ok (.aload_n 0, 1) := by decide +kernel
theorem dX9_readFilters_12 : decode cX9_readFilters 12 = .ok (.getfield 54, 3) := by decide +kernel
theorem dX9_readFilters_15 : decode cX9_readFilters 15 = .ok (.iconst 2, 1) := by decide +kernel
theorem dX9_readFilters_16 : decode cX9_readFilters 16 = .ok (.if_icmp .le 11, 3) := by decide +kernel
end
section
theorem dX9_readFilters_19 : decode cX9_readFilters 19 = .ok (.aload_n 0, 1) := by decide +kernel
theorem dX9_readFilters_20 : decode cX9_readFilters 20 = .ok (.getfield 12, 3) := by decide +kernel
theorem dX9_readFilters_23 : decode cX9_readFilters 23 = .ok (.iconst 1, 1) := by decide +kernel
theorem dX9_readFilters_24 : decode cX9_readFilters 24 = .ok (.invokevirtual 81, 3) := by decide +kernel
theorem dX9_readFilters_27 : decode cX9_readFilters 27 = .ok (.iconst 0, 1) := by decide +kernel
theorem dX9_readFilters_28 : decode cX9_readFilters 28 = .ok (.istore_n 1, 1) := by decide +kernel
theorem dX9_readFilters_29 : decode cX9_readFilters 29 = .ok (.iload_n 1, 1) := by decide +kernel
theorem dX9_readFilters_30 : decode cX9_readFilters 30 = .ok (.aload_n 0, 1) := by decide +kernel
theorem dX9_readFilters_31 : decode cX9_readFilters 31 = .ok (.getfield 54, 3) := by decide +kernel
theorem dX9_readFilters_34 : decode cX9_readFilters 34 = .ok (.if_icmp .ge 86, 3) := by decide +kernel
theorem dX9_readFilters_37 : decode cX9_readFilters 37 = .ok (.iload_n 1, 1) := by decide +kernel
theorem dX9_readFilters_38 : decode cX9_readFilters 38 = .ok (.iconst 2, 1) := by decide +kernel
theorem dX9_readFilters_39 : decode cX9_readFilters 39 = .ok (.if_icmp .ge 81, 3) := by decide +kernel
theorem dX9_readFilters_42 : decode cX9_readFilters 42 = .ok (.aload_n 0, 1) := by decide +kernel
theorem dX9_readFilters_43 : decode cX9_readFilters 43 = .ok (.getfield 18, 3) := by decide +kernel
theorem dX9_readFilters_46 : decode cX9_readFilters 46 = .ok (.iload_n 1, 1) := by decide +kernel
theorem dX9_readFilters_47 : decode cX9_readFilters 47 = .ok (.aload_n 0, 1) := by decide +kernel
theorem dX9_readFilters_48 : decode cX9_readFilters 48 = .ok (.getfield 12, 3) := by decide +kernel
theorem dX9_readFilters_51 : decode cX9_readFilters 51 = .ok (.invokevirtual 78, 3) := by decide +kernel
theorem dX9_readFilters_54 : decode cX9_readFilters 54 = .ok (.iastore, 1) := by decide +kernel
theorem dX9_readFilters_55 : decode cX9_readFilters 55 = .ok (.aload_n 0, 1) := by decide +kernel
theorem dX9_readFilters_56 : decode cX9_readFilters 56 = .ok (.getfield 18, 3) := by decide +kernel
theorem dX9_readFilters_59 : decode cX9_readFilters 59 = .ok (.iload_n 1, 1) := by decide +kernel
theorem dX9_readFilters_60 : decode cX9_readFilters 60 = .ok (.iaload, 1) := by decide +kernel
theorem dX9_readFilters_61 : decode cX9_readFilters 61 = .ok (.invokestatic 84, 3) := by decide +kernel
theorem dX9_readFilters_64 : decode cX9_readFilters 64 = .ok (.ifCond .ne 11, 3) := by decide +kernel
theorem dX9_readFilters_67 : decode cX9_readFilters 67 = .ok (.aload_n 0, 1) := by decide +kernel
theorem dX9_readFilters_68 : decode cX9_readFilters 68 = .ok (.getfield 12, 3) := by decide +kernel
theorem dX9_readFilters_71 : decode cX9_readFilters 71 = .ok (.iconst 1, 1) := by decide +kernel
theorem dX9_readFilters_72 : decode cX9_readFilters 72 = .ok (.invokevirtual 81, 3) := by decide +kernel
theorem dX9_readFilters_75 : decode cX9_readFilters 75 = .ok (.aload_n 0, 1) := by decide +kernel
theorem dX9_readFilters_76 : decode cX9_readFilters 76 = .ok (.getfield 22, 3) := by decide +kernel
theorem dX9_readFilters_79 : decode cX9_readFilters 79 = .ok (.iload_n 1, 1) := by decide +kernel
theorem dX9_readFilters_80 : decode cX9_readFilters 80 = .ok (.aload_n 0, 1) := by decide +kernel
theorem dX9_readFilters_81 : decode cX9_readFilters 81 = .ok (.getfield 12, 3) := by decide +kernel
theorem dX9_readFilters_84 : decode cX9_readFilters 84 = .ok (.invokevirtual 78, 3) := by decide +kernel
theorem dX9_readFilters_87 : decode cX9_readFilters 87 = .ok (.iastore, 1) := by decide +kernel
theorem dX9_readFilters_88 : decode cX9_readFilters 88 = .ok (.aload_n 0, 1) := by decide +kernel
theorem dX9_readFilters_89 : decode cX9_readFilters 89 = .ok (.getfield 18, 3) := by decide +kernel
theorem dX9_readFilters_92 : decode cX9_readFilters 92 = .ok (.iload_n 1, 1) := by decide +kernel
theorem dX9_readFilters_93 : decode cX9_readFilters 93 = .ok (.iaload, 1) := by decide +kernel
theorem dX9_readFilters_94 : decode cX9_readFilters 94 = .ok (.aload_n 0, 1) := by decide +kernel
theorem dX9_readFilters_95 : decode cX9_readFilters 95 = .ok (.getfield 22, 3) := by decide +kernel
theorem dX9_readFilters_98 : decode cX9_readFilters 98 = .ok (.iload_n 1, 1) := by decide +kernel
theorem dX9_readFilters_99 : decode cX9_readFilters 99 = .ok (.iaload, 1) := by decide +kernel
theorem dX9_readFilters_100 : decode cX9_readFilters 100 = .ok (.invokestatic 88, 3) := by decide +kernel
theorem dX9_readFilters_103 : decode cX9_readFilters 103 = .ok (.ifCond .ne 11, 3) := by decide +kernel
theorem dX9_readFilters_106 : decode cX9_readFilters 106 = .ok (.aload_n 0, 1) := by decide +kernel
theorem dX9_readFilters_107 : decode cX9_readFilters 107 = .ok (.getfield 12, 3) := by decide +kernel
theorem dX9_readFilters_110 : decode cX9_readFilters 110 = .ok (.iconst 1, 1) := by decide +kernel
theorem dX9_readFilters_111 : decode cX9_readFilters 111 = .ok (.invokevirtual 81, 3) := by decide +kernel
theorem dX9_readFilters_114 : decode cX9_readFilters 114 = .ok (.iinc 1 1, 3) := by decide +kernel
theorem dX9_readFilters_117 : decode cX9_readFilters 117 = .ok (.goto (-88), 3) := by decide +kernel
theorem dX9_readFilters_120 : decode cX9_readFilters 120 = .ok (.return_, 1) := by decide +kernel
theorem dX9_readBody_0 : decode cX9_readBody 0 = .ok (.aload_n 0, 1) := by decide +kernel
theorem dX9_readBody_1 : decode cX9_readBody 1 = .ok (.getfield 12, 3) := by decide +kernel
theorem dX9_readBody_4 : decode cX9_readBody 4 = .ok (.invokevirtual 92, 3) := by decide +kernel
theorem dX9_readBody_7 : decode cX9_readBody 7 = .ok (.ifCond .eq 10, 3) := by decide +kernel
theorem dX9_readBody_10 : decode cX9_readBody 10 = .ok (.aload_n 0, 1) := by decide +kernel
theorem dX9_readBody_11 : decode cX9_readBody 11 = .ok (.getfield 61, 3) := by decide +kernel
theorem dX9_readBody_14 : decode cX9_readBody 14 = .ok (.ifCond .ne 4, 3) := by decide +kernel
theorem dX9_readBody_17 : decode cX9_readBody 17 = .ok (.return_, 1) := by decide +kernel
theorem dX9_readBody_18 : decode cX9_readBody 18 = .ok (.aload_n 0, 1) := by decide +kernel
theorem dX9_readBody_19 : decode cX9_readBody 19 = .ok (.getfield 58, 3) := by decide +kernel
theorem dX9_readBody_22 : decode cX9_readBody 22 = .ok (.tableswitch 51 1 4 #[30, 37, 44, 30], 30) := by decide +kernel
theorem dX9_readBody_52 : decode cX9_readBody 52 = .ok (.aload_n 0, 1) := by decide +kernel
theorem dX9_readBody_53 : decode cX9_readBody 53 = .ok (.invokevirtual 96, 3) := by decide +kernel
theorem dX9_readBody_56 : decode cX9_readBody 56 = .ok (.goto 25, 3) := by decide +kernel
theorem dX9_readBody_59 : decode cX9_readBody 59 = .ok (.aload_n 0, 1) := by decide +kernel
theorem dX9_readBody_60 : decode cX9_readBody 60 = .ok (.invokevirtual 99, 3) := by decide +kernel
theorem dX9_readBody_63 : decode cX9_readBody 63 = .ok (.goto 18, 3) := by decide +kernel
theorem dX9_readBody_66 : decode cX9_readBody 66 = .ok (.aload_n 0, 1) := by decide +kernel
theorem dX9_readBody_67 : decode cX9_readBody 67 = .ok (.invokevirtual 102, 3) := by decide +kernel
theorem dX9_readBody_70 : decode cX9_readBody 70 = .ok (.goto 11, 3) := by decide +kernel
theorem dX9_readBody_73 : decode cX9_readBody 73 = .ok (.aload_n 0, 1) := by decide +kernel
theorem dX9_readBody_74 : decode cX9_readBody 74 = .ok (.aload_n 0, 1) := by decide +kernel
theorem dX9_readBody_75 : decode cX9_readBody 75 = .ok (.getfield 61, 3) := by decide +kernel
theorem dX9_readBody_78 : decode cX9_readBody 78 = .ok (.invokevirtual 105, 3) := by decide +kernel
theorem dX9_readBody_81 : decode cX9_readBody 81 = .ok (.return_, 1) := by decide +kernel
theorem dX9_finish_0 : decode cX9_finish 0 = .ok (.aload_n 0, 1) := by decide +kernel
theorem dX9_finish_1 : decode cX9_finish 1 = .ok (.getfield 12, 3) := by decide +kernel
theorem dX9_finish_4 : decode cX9_finish 4 = .ok (.invokevirtual 108, 3) := by decide +kernel
theorem dX9_finish_7 : decode cX9_finish 7 = .ok (.aload_n 0, 1) := by decide +kernel
theorem dX9_finish_8 : decode cX9_finish 8 = .ok (.getfield 12, 3) := by decide +kernel
theorem dX9_finish_11 : decode cX9_finish 11 = .ok (.invokevirtual 92, 3) := by decide +kernel
theorem dX9_finish_14 : decode cX9_finish 14 = .ok (.ifCond .eq 15, 3) := by decide +kernel
theorem dX9_finish_17 : decode cX9_finish 17 = .ok (.aload_n 0, 1) := by decide +kernel
theorem dX9_finish_18 : decode cX9_finish 18 = .ok (.invokevirtual 111, 3) := by decide +kernel
theorem dX9_finish_21 : decode cX9_finish 21 = .ok (.aload_n 1, 1) := by decide +kernel
theorem dX9_finish_22 : decode cX9_finish 22 = .ok (.aload_n 0, 1) := by decide +kernel
theorem dX9_finish_23 : decode cX9_finish 23 = .ok (.getfield 47, 3) := by decide +kernel
theorem dX9_finish_26 : decode cX9_finish 26 = .ok (.invokevirtual 114, 3) := by decide +kernel
theorem dX9_finish_29 : decode cX9_finish 29 = .ok (.aload_n 0, 1) := by decide +kernel
theorem dX9_finish_30 : decode cX9_finish 30 = .ok (.getfield 12, 3) := by decide +kernel
theorem dX9_finish_33 : decode cX9_finish 33 = .ok (.invokevirtual 117, 3) := by decide +kernel
theorem dX9_finish_36 : decode cX9_finish 36 = .ok (.ireturn, 1) := by decide +kernel
theorem dX9_copy_0 : decode cX9_copy 0 = .ok (.iconst 0, 1) := by decide +kernel
theorem dX9_copy_1 : decode cX9_copy 1 = .ok (.istore_n 2, 1) := by decide +kernel
theorem dX9_copy_2 : decode cX9_copy 2 = .ok (.iload_n 2, 1) := by decide +kernel
theorem dX9_copy_3 : decode cX9_copy 3 = .ok (.iload_n 1, 1) := by decide +kernel
theorem dX9_copy_4 : decode cX9_copy 4 = .ok (.if_icmp .ge 33, 3) := by decide +kernel
theorem dX9_copy_7 : decode cX9_copy 7 = .ok (.aload_n 0, 1) := by decide +kernel
theorem dX9_copy_8 : decode cX9_copy 8 = .ok (.getfield 12, 3) := by decide +kernel
theorem dX9_copy_11 : decode cX9_copy 11 = .ok (.invokevirtual 92, 3) := by decide +kernel
theorem dX9_copy_14 : decode cX9_copy 14 = .ok (.ifCond .eq 23, 3) := by decide +kernel
theorem dX9_copy_17 : decode cX9_copy 17 = .ok (.aload_n 0, 1) := by decide +kernel
theorem dX9_copy_18 : decode cX9_copy 18 = .ok (.getfield 47, 3) := by decide +kernel
theorem dX9_copy_21 : decode cX9_copy 21 = .ok (.aload_n 0, 1) := by decide +kernel
theorem dX9_copy_22 : decode cX9_copy 22 = .ok (.getfield 12, 3) := by decide +kernel
theorem dX9_copy_25 : decode cX9_copy 25 = .ok (.invokevirtual 78, 3) := by decide +kernel
theorem dX9_copy_28 : decode cX9_copy 28 = .ok (.invokevirtual 120, 3) := by decide +kernel
theorem dX9_copy_31 : decode cX9_copy 31 = .ok (.iinc 2 1, 3) := by decide +kernel
theorem dX9_copy_34 : decode cX9_copy 34 = .ok (.goto (-32), 3) := by decide +kernel
theorem dX9_copy_37 : decode cX9_copy 37 = .ok (.return_, 1) := by decide +kernel
theorem dX9_readItems_0 : decode cX9_readItems 0 = .ok (.aload_n 0, 1) := by decide +kernel
theorem dX9_readItems_1 : decode cX9_readItems 1 = .ok (.getfield 58, 3) := by decide +kernel
theorem dX9_readItems_4 : decode cX9_readItems 4 = .ok (.iconst 1, 1) := by decide +kernel
theorem dX9_readItems_5 : decode cX9_readItems 5 = .ok (.if_icmp .ne 8, 3) := by decide +kernel
theorem dX9_readItems_8 : decode cX9_readItems 8 = .ok (.bipush 126, 2) := by decide +kernel
theorem dX9_readItems_10 : decode cX9_readItems 10 = .ok (.goto 5, 3) := by decide +kernel
theorem dX9_readItems_13 : decode cX9_readItems 13 = .ok (.bipush 125, 2) := by decide +kernel
theorem dX9_readItems_15 : decode cX9_readItems 15 = .ok (.istore_n 1, 1) := by decide +kernel
theorem dX9_readItems_16 : decode cX9_readItems 16 = .ok (.iconst 0, 1) := by decide +kernel
theorem dX9_readItems_17 : decode cX9_readItems 17 = .ok (.istore_n 2, 1) := by decide +kernel
theorem dX9_readItems_18 : decode cX9_readItems 18 = .ok (.iload_n 2, 1) := by decide +kernel
theorem dX9_readItems_19 : decode cX9_readItems 19 = .ok (.aload_n 0, 1) := by decide +kernel
theorem dX9_readItems_20 : decode cX9_readItems 20 = .ok (.getfield 61, 3) := by decide +kernel
theorem dX9_readItems_23 : decode cX9_readItems 23 = .ok (.if_icmp .ge 123, 3) := by decide +kernel
theorem dX9_readItems_26 : decode cX9_readItems 26 = .ok (.aload_n 0, 1) := by decide +kernel
theorem dX9_readItems_27 : decode cX9_readItems 27 = .ok (.getfield 47, 3) := by decide +kernel
theorem dX9_readItems_30 : decode cX9_readItems 30 = .ok (.invokevirtual 123, 3) := by decide +kernel
theorem dX9_readItems_33 : decode cX9_readItems 33 = .ok (.aload_n 0, 1) := by decide +kernel
theorem dX9_readItems_34 : decode cX9_readItems 34 = .ok (.getfield 61, 3) := by decide +kernel
theorem dX9_readItems_37 : decode cX9_readItems 37 = .ok (.if_icmp .ge 109, 3) := by decide +kernel
theorem dX9_readItems_40 : decode cX9_readItems 40 = .ok (.aload_n 0, 1) := by decide +kernel
theorem dX9_readItems_41 : decode cX9_readItems 41 = .ok (.getfield 12, 3) := by decide +kernel
theorem dX9_readItems_44 : decode cX9_readItems 44 = .ok (.invokevirtual 92, 3) := by decide +kernel
theorem dX9_readItems_47 : decode cX9_readItems 47 = .ok (.ifCond .eq 99, 3) := by decide +kernel
theorem dX9_readItems_50 : decode cX9_readItems 50 = .ok (.aload_n 0, 1) := by decide +kernel
theorem dX9_readItems_51 : decode cX9_readItems 51 = .ok (.getfield 12, 3) := by decide +kernel
theorem dX9_readItems_54 : decode cX9_readItems 54 = .ok (.invokevirtual 78, 3) := by decide +kernel
theorem dX9_readItems_57 : decode cX9_readItems 57 = .ok (.istore_n 3, 1) := by decide +kernel
theorem dX9_readItems_58 : decode cX9_readItems 58 = .ok (.iload_n 3, 1) := by decide +kernel
theorem dX9_readItems_59 : decode cX9_readItems 59 = .ok (.sipush 128, 3) := by decide +kernel
theorem dX9_readItems_62 : decode cX9_readItems 62 = .ok (.if_icmp .ge 9, 3) := by decide +kernel
theorem dX9_readItems_65 : decode cX9_readItems 65 = .ok (.iload_n 3, 1) := by decide +kernel
theorem dX9_readItems_66 : decode cX9_readItems 66 = .ok (.iconst 1, 1) := by decide +kernel
theorem dX9_readItems_67 : decode cX9_readItems 67 = .ok (.iadd, 1) := by decide +kernel
theorem dX9_readItems_68 : decode cX9_readItems 68 = .ok (.goto 6, 3) := by decide +kernel
theorem dX9_readItems_71 : decode cX9_readItems 71 = .ok (.iload_n 3, 1) := by decide +kernel
theorem dX9_readItems_72 : decode cX9_readItems 72 = .ok (.iload_n 1, 1) := by decide +kernel
theorem dX9_readItems_73 : decode cX9_readItems 73 = .ok (.isub, 1) := by decide +kernel
theorem dX9_readItems_74 : decode cX9_readItems 74 = .ok (.istore 4, 2) := by decide +kernel
theorem dX9_readItems_76 : decode cX9_readItems 76 = .ok (.iload 4, 2) := by decide +kernel
theorem dX9_readItems_78 : decode cX9_readItems 78 = .ok (.aload_n 0, 1) := by decide +kernel
theorem dX9_readItems_79 : decode cX9_readItems 79 = .ok (.getfield 61, 3) := by decide +kernel
theorem dX9_readItems_82 : decode cX9_readItems 82 = .ok (.aload_n 0, 1) := by decide +kernel
theorem dX9_readItems_83 : decode cX9_readItems 83 = .ok (.getfield 47, 3) := by decide +kernel
theorem dX9_readItems_86 : decode cX9_readItems 86 = .ok (.invokevirtual 123, 3) := by decide +kernel
theorem dX9_readItems_89 : decode cX9_readItems 89 = .ok (.isub, 1) := by decide +kernel
theorem dX9_readItems_90 : decode cX9_readItems 90 = .ok (.if_icmp .le 11, 3) := by decide +kernel
theorem dX9_readItems_93 : decode cX9_readItems 93 = .ok (.aload_n 0, 1) := by decide +kernel
theorem dX9_readItems_94 : decode cX9_readItems 94 = .ok (.getfield 12, 3) := by decide +kernel
theorem dX9_readItems_97 : decode cX9_readItems 97 = .ok (.iconst 4, 1) := by decide +kernel
theorem dX9_readItems_98 : decode cX9_readItems 98 = .ok (.invokevirtual 81, 3) := by decide +kernel
theorem dX9_readItems_101 : decode cX9_readItems 101 = .ok (.iload_n 3, 1) := by decide +kernel
theorem dX9_readItems_102 : decode cX9_readItems 102 = .ok (.sipush 128, 3) := by decide +kernel
theorem dX9_readItems_105 : decode cX9_readItems 105 = .ok (.if_icmp .ge 12, 3) := by decide +kernel
theorem dX9_readItems_108 : decode cX9_readItems 108 = .ok (.aload_n 0, 1) := by decide +kernel
theorem dX9_readItems_109 : decode cX9_readItems 109 = .ok (.iload 4, 2) := by decide +kernel
theorem dX9_readItems_111 : decode cX9_readItems 111 = .ok (.invokevirtual 105, 3) := by decide +kernel
theorem dX9_readItems_114 : decode cX9_readItems 114 = .ok (.goto 26, 3) := by decide +kernel
theorem dX9_readItems_117 : decode cX9_readItems 117 = .ok (.aload_n 0, 1) := by decide +kernel
theorem dX9_readItems_118 : decode cX9_readItems 118 = .ok (.getfield 58, 3) := by decide +kernel
theorem dX9_readItems_121 : decode cX9_readItems 121 = .ok (.iconst 1, 1) := by decide +kernel
theorem dX9_readItems_122 : decode cX9_readItems 122 = .ok (.if_icmp .ne 12, 3) := by decide +kernel
theorem dX9_readItems_125 : decode cX9_readItems 125 = .ok (.aload_n 0, 1) := by decide +kernel
theorem dX9_readItems_126 : decode cX9_readItems 126 = .ok (.iload 4, 2) := by decide +kernel
theorem dX9_readItems_128 : decode cX9_readItems 128 = .ok (.invokevirtual 125, 3) := by decide +kernel
theorem dX9_readItems_131 : decode cX9_readItems 131 = .ok (.goto 9, 3) := by decide +kernel
theorem dX9_readItems_134 : decode cX9_readItems 134 = .ok (.aload_n 0, 1) := by decide +kernel
theorem dX9_readItems_135 : decode cX9_readItems 135 = .ok (.iload 4, 2) := by decide +kernel
theorem dX9_readItems_137 : decode cX9_readItems 137 = .ok (.invokevirtual 128, 3) := by decide +kernel
theorem dX9_readItems_140 : decode cX9_readItems 140 = .ok (.iinc 2 1, 3) := by decide +kernel
theorem dX9_readItems_143 : decode cX9_readItems 143 = .ok (.goto (-125), 3) := by decide +kernel
theorem dX9_readItems_146 : decode cX9_readItems 146 = .ok (.return_, 1) := by decide +kernel
theorem dX9_repeat_0 : decode cX9_repeat 0 = .ok (.aload_n 0, 1) := by decide +kernel
theorem dX9_repeat_1 : decode cX9_repeat 1 = .ok (.getfield 12, 3) := by decide +kernel
theorem dX9_repeat_4 : decode cX9_repeat 4 = .ok (.invokevirtual 78, 3) := by decide +kernel
theorem dX9_repeat_7 : decode cX9_repeat 7 = .ok (.istore_n 2, 1) := by decide +kernel
theorem dX9_repeat_8 : decode cX9_repeat 8 = .ok (.iconst 0, 1) := by decide +kernel
theorem dX9_repeat_9 : decode cX9_repeat 9 = .ok (.istore_n 3, 1) := by decide +kernel
theorem dX9_repeat_10 : decode cX9_repeat 10 = .ok (.iload_n 3, 1) := by decide +kernel
theorem dX9_repeat_11 : decode cX9_repeat 11 = .ok (.iload_n 1, 1) := by decide +kernel
theorem dX9_repeat_12 : decode cX9_repeat 12 = .ok (.if_icmp .ge 27, 3) := by decide +kernel
theorem dX9_repeat_15 : decode cX9_repeat 15 = .ok (.aload_n 0, 1) := by decide +kernel
theorem dX9_repeat_16 : decode cX9_repeat 16 = .ok (.getfield 12, 3) := by decide +kernel
theorem dX9_repeat_19 : decode cX9_repeat 19 = .ok (.invokevirtual 92, 3) := by decide +kernel
theorem dX9_repeat_22 : decode cX9_repeat 22 = .ok (.ifCond .eq 17, 3) := by decide +kernel
theorem dX9_repeat_25 : decode cX9_repeat 25 = .ok (.aload_n 0, 1) := by decide +kernel
theorem dX9_repeat_26 : decode cX9_repeat 26 = .ok (.getfield 47, 3) := by decide +kernel
theorem dX9_repeat_29 : decode cX9_repeat 29 = .ok (.iload_n 2, 1) := by decide +kernel
theorem dX9_repeat_30 : decode cX9_repeat 30 = .ok (.invokevirtual 120, 3) := by decide +kernel
theorem dX9_repeat_33 : decode cX9_repeat 33 = .ok (.iinc 3 1, 3) := by decide +kernel
theorem dX9_repeat_36 : decode cX9_repeat 36 = .ok (.goto (-26), 3) := by decide +kernel
theorem dX9_repeat_39 : decode cX9_repeat 39 = .ok (.return_, 1) := by decide +kernel
theorem dX9_copyBack_0 : decode cX9_copyBack 0 = .ok (.aload_n 0, 1) := by decide +kernel
theorem dX9_copyBack_1 : decode cX9_copyBack 1 = .ok (.getfield 12, 3) := by decide +kernel
theorem dX9_copyBack_4 : decode cX9_copyBack 4 = .ok (.invokevirtual 78, 3) := by decide +kernel
theorem dX9_copyBack_7 : decode cX9_copyBack 7 = .ok (.istore_n 2, 1) := by decide +kernel
theorem dX9_copyBack_8 : decode cX9_copyBack 8 = .ok (.iload_n 2, 1) := by decide +kernel
theorem dX9_copyBack_9 : decode cX9_copyBack 9 = .ok (.ifCond .eq 14, 3) := by decide +kernel
theorem dX9_copyBack_12 : decode cX9_copyBack 12 = .ok (.iload_n 2, 1) := by decide +kernel
theorem dX9_copyBack_13 : decode cX9_copyBack 13 = .ok (.aload_n 0, 1) := by decide +kernel
theorem dX9_copyBack_14 : decode cX9_copyBack 14 = .ok (.getfield 47, 3) := by decide +kernel
theorem dX9_copyBack_17 : decode cX9_copyBack 17 = .ok (.invokevirtual 123, 3) := by decide +kernel
theorem dX9_copyBack_20 : decode cX9_copyBack 20 = .ok (.if_icmp .le 11, 3) := by decide +kernel
theorem dX9_copyBack_23 : decode cX9_copyBack 23 = .ok (.aload_n 0, 1) := by decide +kernel
theorem dX9_copyBack_24 : decode cX9_copyBack 24 = .ok (.getfield 12, 3) := by decide +kernel
theorem dX9_copyBack_27 : decode cX9_copyBack 27 = .ok (.iconst 4, 1) := by decide +kernel
theorem dX9_copyBack_28 : decode cX9_copyBack 28 = .ok (.invokevirtual 81, 3) := by decide +kernel
theorem dX9_copyBack_31 : decode cX9_copyBack 31 = .ok (.iconst 0, 1) := by decide +kernel
theorem dX9_copyBack_32 : decode cX9_copyBack 32 = .ok (.istore_n 3, 1) := by decide +kernel
theorem dX9_copyBack_33 : decode cX9_copyBack 33 = .ok (.iload_n 3, 1) := by decide +kernel
theorem dX9_copyBack_34 : decode cX9_copyBack 34 = .ok (.iload_n 1, 1) := by decide +kernel
theorem dX9_copyBack_35 : decode cX9_copyBack 35 = .ok (.if_icmp .ge 42, 3) := by decide +kernel
theorem dX9_copyBack_38 : decode cX9_copyBack 38 = .ok (.aload_n 0, 1) := by decide +kernel
theorem dX9_copyBack_39 : decode cX9_copyBack 39 = .ok (.getfield 12, 3) := by decide +kernel
theorem dX9_copyBack_42 : decode cX9_copyBack 42 = .ok (.invokevirtual 92, 3) := by decide +kernel
theorem dX9_copyBack_45 : decode cX9_copyBack 45 = .ok (.ifCond .eq 32, 3) := by decide +kernel
theorem dX9_copyBack_48 : decode cX9_copyBack 48 = .ok (.aload_n 0, 1) := by decide +kernel
theorem dX9_copyBack_49 : decode cX9_copyBack 49 = .ok (.getfield 47, 3) := by decide +kernel
theorem dX9_copyBack_52 : decode cX9_copyBack 52 = .ok (.aload_n 0, 1) := by decide +kernel
theorem dX9_copyBack_53 : decode cX9_copyBack 53 = .ok (.getfield 47, 3) := by decide +kernel
theorem dX9_copyBack_56 : decode cX9_copyBack 56 = .ok (.aload_n 0, 1) := by decide +kernel
theorem dX9_copyBack_57 : decode cX9_copyBack 57 = .ok (.getfield 47, 3) := by decide +kernel
theorem dX9_copyBack_60 : decode cX9_copyBack 60 = .ok (.invokevirtual 123, 3) := by decide +kernel
theorem dX9_copyBack_63 : decode cX9_copyBack 63 = .ok (.iload_n 2, 1) := by decide +kernel
theorem dX9_copyBack_64 : decode cX9_copyBack 64 = .ok (.isub, 1) := by decide +kernel
theorem dX9_copyBack_65 : decode cX9_copyBack 65 = .ok (.invokevirtual 131, 3) := by decide +kernel
theorem dX9_copyBack_68 : decode cX9_copyBack 68 = .ok (.invokevirtual 120, 3) := by decide +kernel
theorem dX9_copyBack_71 : decode cX9_copyBack 71 = .ok (.iinc 3 1, 3) := by decide +kernel
theorem dX9_copyBack_74 : decode cX9_copyBack 74 = .ok (.goto (-41), 3) := by decide +kernel
theorem dX9_copyBack_77 : decode cX9_copyBack 77 = .ok (.return_, 1) := by decide +kernel
theorem dX9_readBits_0 : decode cX9_readBits 0 = .ok (.aload_n 0, 1) := by decide +kernel
theorem dX9_readBits_1 : decode cX9_readBits 1 = .ok (.getfield 12, 3) := by decide +kernel
theorem dX9_readBits_4 : decode cX9_readBits 4 = .ok (.invokevirtual 78, 3) := by decide +kernel
theorem dX9_readBits_7 : decode cX9_readBits 7 = .ok (.iconst 1, 1) := by decide +kernel
theorem dX9_readBits_8 : decode cX9_readBits 8 = .ok (.iadd, 1) := by decide +kernel
theorem dX9_readBits_9 : decode cX9_readBits 9 = .ok (.istore_n 1, 1) := by decide +kernel
theorem dX9_readBits_10 : decode cX9_readBits 10 = .ok (.iconst (-1), 1) := by decide +kernel
theorem dX9_readBits_11 : decode cX9_readBits 11 = .ok (.istore_n 2, 1) := by decide +kernel
theorem dX9_readBits_12 : decode cX9_readBits 12 = .ok (.iconst 0, 1) := by decide +kernel
theorem dX9_readBits_13 : decode cX9_readBits 13 = .ok (.istore_n 3, 1) := by decide +kernel
theorem dX9_readBits_14 : decode cX9_readBits 14 = .ok (.iload_n 3, 1) := by decide +kernel
theorem dX9_readBits_15 : decode cX9_readBits 15 = .ok (.iload_n 1, 1) := by decide +kernel
theorem dX9_readBits_16 : decode cX9_readBits 16 = .ok (.if_icmp .ge 39, 3) := by decide +kernel
theorem dX9_readBits_19 : decode cX9_readBits 19 = .ok (.iload_n 3, 1) := by decide +kernel
theorem dX9_readBits_20 : decode cX9_readBits 20 = .ok (.sipush 256, 3) := by decide +kernel
theorem dX9_readBits_23 : decode cX9_readBits 23 = .ok (.if_icmp .ge 32, 3) := by decide +kernel
theorem dX9_readBits_26 : decode cX9_readBits 26 = .ok (.aload_n 0, 1) := by decide +kernel
theorem dX9_readBits_27 : decode cX9_readBits 27 = .ok (.getfield 12, 3) := by decide +kernel
theorem dX9_readBits_30 : decode cX9_readBits 30 = .ok (.invokevirtual 92, 3) := by decide +kernel
theorem dX9_readBits_33 : decode cX9_readBits 33 = .ok (.ifCond .eq 22, 3) := by decide +kernel
theorem dX9_readBits_36 : decode cX9_readBits 36 = .ok (.aload_n 0, 1) := by decide +kernel
theorem dX9_readBits_37 : decode cX9_readBits 37 = .ok (.iload_n 2, 1) := by decide +kernel
theorem dX9_readBits_38 : decode cX9_readBits 38 = .ok (.invokevirtual 135, 3) := by decide +kernel
theorem dX9_readBits_41 : decode cX9_readBits 41 = .ok (.istore_n 2, 1) := by decide +kernel
theorem dX9_readBits_42 : decode cX9_readBits 42 = .ok (.aload_n 0, 1) := by decide +kernel
theorem dX9_readBits_43 : decode cX9_readBits 43 = .ok (.getfield 25, 3) := by decide +kernel
theorem dX9_readBits_46 : decode cX9_readBits 46 = .ok (.iload_n 3, 1) := by decide +kernel
theorem dX9_readBits_47 : decode cX9_readBits 47 = .ok (.iload_n 2, 1) := by decide +kernel
theorem dX9_readBits_48 : decode cX9_readBits 48 = .ok (.iastore, 1) := by decide +kernel
theorem dX9_readBits_49 : decode cX9_readBits 49 = .ok (.iinc 3 1, 3) := by decide +kernel
theorem dX9_readBits_52 : decode cX9_readBits 52 = .ok (.goto (-38), 3) := by decide +kernel
theorem dX9_readBits_55 : decode cX9_readBits 55 = .ok (.iload_n 1, 1) := by decide +kernel
theorem dX9_readBits_56 : decode cX9_readBits 56 = .ok (.iconst 1, 1) := by decide +kernel
theorem dX9_readBits_57 : decode cX9_readBits 57 = .ok (.isub, 1) := by decide +kernel
theorem dX9_readBits_58 : decode cX9_readBits 58 = .ok (.invokestatic 138, 3) := by decide +kernel
theorem dX9_readBits_61 : decode cX9_readBits 61 = .ok (.istore_n 3, 1) := by decide +kernel
theorem dX9_readBits_62 : decode cX9_readBits 62 = .ok (.iconst 0, 1) := by decide +kernel
theorem dX9_readBits_63 : decode cX9_readBits 63 = .ok (.istore 4, 2) := by decide +kernel
theorem dX9_readBits_65 : decode cX9_readBits 65 = .ok (.iload 4, 2) := by decide +kernel
theorem dX9_readBits_67 : decode cX9_readBits 67 = .ok (.aload_n 0, 1) := by decide +kernel
theorem dX9_readBits_68 : decode cX9_readBits 68 = .ok (.getfield 61, 3) := by decide +kernel
theorem dX9_readBits_71 : decode cX9_readBits 71 = .ok (.if_icmp .ge 83, 3) := by decide +kernel
theorem dX9_readBits_74 : decode cX9_readBits 74 = .ok (.aload_n 0, 1) := by decide +kernel
theorem dX9_readBits_75 : decode cX9_readBits 75 = .ok (.getfield 12, 3) := by decide +kernel
theorem dX9_readBits_78 : decode cX9_readBits 78 = .ok (.invokevirtual 92, 3) := by decide +kernel
theorem dX9_readBits_81 : decode cX9_readBits 81 = .ok (.ifCond .eq 73, 3) := by decide +kernel
theorem dX9_readBits_84 : decode cX9_readBits 84 = .ok (.iconst 0, 1) := by decide +kernel
theorem dX9_readBits_85 : decode cX9_readBits 85 = .ok (.istore 5, 2) := by decide +kernel
theorem dX9_readBits_87 : decode cX9_readBits 87 = .ok (.iconst 0, 1) := by decide +kernel
theorem dX9_readBits_88 : decode cX9_readBits 88 = .ok (.istore 6, 2) := by decide +kernel
theorem dX9_readBits_90 : decode cX9_readBits 90 = .ok (.iload 6, 2) := by decide +kernel
theorem dX9_readBits_92 : decode cX9_readBits 92 = .ok (.iload_n 3, 1) := by decide +kernel
theorem dX9_readBits_93 : decode cX9_readBits 93 = .ok (.if_icmp .ge 23, 3) := by decide +kernel
theorem dX9_readBits_96 : decode cX9_readBits 96 = .ok (.iload 5, 2) := by decide +kernel
theorem dX9_readBits_98 : decode cX9_readBits 98 = .ok (.iconst 1, 1) := by decide +kernel
theorem dX9_readBits_99 : decode cX9_readBits 99 = .ok (.ishl, 1) := by decide +kernel
theorem dX9_readBits_100 : decode cX9_readBits 100 = .ok (.aload_n 0, 1) := by decide +kernel
theorem dX9_readBits_101 : decode cX9_readBits 101 = .ok (.getfield 12, 3) := by decide +kernel
theorem dX9_readBits_104 : decode cX9_readBits 104 = .ok (.invokevirtual 143, 3) := by decide +kernel
theorem dX9_readBits_107 : decode cX9_readBits 107 = .ok (.ior, 1) := by decide +kernel
theorem dX9_readBits_108 : decode cX9_readBits 108 = .ok (.istore 5, 2) := by decide +kernel
theorem dX9_readBits_110 : decode cX9_readBits 110 = .ok (.iinc 6 1, 3) := by decide +kernel
theorem dX9_readBits_113 : decode cX9_readBits 113 = .ok (.goto (-23), 3) := by decide +kernel
theorem dX9_readBits_116 : decode cX9_readBits 116 = .ok (.iload 5, 2) := by decide +kernel
theorem dX9_readBits_118 : decode cX9_readBits 118 = .ok (.iload_n 1, 1) := by decide +kernel
theorem dX9_readBits_119 : decode cX9_readBits 119 = .ok (.if_icmp .lt 11, 3) := by decide +kernel
theorem dX9_readBits_122 : decode cX9_readBits 122 = .ok (.aload_n 0, 1) := by decide +kernel
theorem dX9_readBits_123 : decode cX9_readBits 123 = .ok (.getfield 12, 3) := by decide +kernel
theorem dX9_readBits_126 : decode cX9_readBits 126 = .ok (.iconst 4, 1) := by decide +kernel
theorem dX9_readBits_127 : decode cX9_readBits 127 = .ok (.invokevirtual 81, 3) := by decide +kernel
theorem dX9_readBits_130 : decode cX9_readBits 130 = .ok (.aload_n 0, 1) := by decide +kernel
theorem dX9_readBits_131 : decode cX9_readBits 131 = .ok (.getfield 47, 3) := by decide +kernel
theorem dX9_readBits_134 : decode cX9_readBits 134 = .ok (.aload_n 0, 1) := by decide +kernel
theorem dX9_readBits_135 : decode cX9_readBits 135 = .ok (.getfield 25, 3) := by decide +kernel
theorem dX9_readBits_138 : decode cX9_readBits 138 = .ok (.iload 5, 2) := by decide +kernel
theorem dX9_readBits_140 : decode cX9_readBits 140 = .ok (.sipush 255, 3) := by decide +kernel
theorem dX9_readBits_143 : decode cX9_readBits 143 = .ok (.iand, 1) := by decide +kernel
theorem dX9_readBits_144 : decode cX9_readBits 144 = .ok (.iaload, 1) := by decide +kernel
theorem dX9_readBits_145 : decode cX9_readBits 145 = .ok (.invokevirtual 120, 3) := by decide +kernel
theorem dX9_readBits_148 : decode cX9_readBits 148 = .ok (.iinc 4 1, 3) := by decide +kernel
theorem dX9_readBits_151 : decode cX9_readBits 151 = .ok (.goto (-86), 3) := by decide +kernel
theorem dX9_readBits_154 : decode cX9_readBits 154 = .ok (.aload_n 0, 1) := by decide +kernel
theorem dX9_readBits_155 : decode cX9_readBits 155 = .ok (.getfield 12, 3) := by decide +kernel
theorem dX9_readBits_158 : decode cX9_readBits 158 = .ok (.invokevirtual 146, 3) := by decide +kernel
theorem dX9_readBits_161 : decode cX9_readBits 161 = .ok (.return_, 1) := by decide +kernel
theorem dX9_readRising_0 : decode cX9_readRising 0 = .ok (.aload_n 0, 1) := by decide +kernel
theorem dX9_readRising_1 : decode cX9_readRising 1 = .ok (.getfield 12, 3) := by decide +kernel
theorem dX9_readRising_4 : decode cX9_readRising 4 = .ok (.invokevirtual 78, 3) := by decide +kernel
theorem dX9_readRising_7 : decode cX9_readRising 7 = .ok (.istore_n 2, 1) := by decide +kernel
theorem dX9_readRising_8 : decode cX9_readRising 8 = .ok (.iload_n 2, 1) := by decide +kernel
theorem dX9_readRising_9 : decode cX9_readRising 9 = .ok (.iload_n 1, 1) := by decide +kernel
theorem dX9_readRising_10 : decode cX9_readRising 10 = .ok (.if_icmp .gt 11, 3) := by decide +kernel
theorem dX9_readRising_13 : decode cX9_readRising 13 = .ok (.aload_n 0, 1) := by decide +kernel
theorem dX9_readRising_14 : decode cX9_readRising 14 = .ok (.getfield 12, 3) := by decide +kernel
theorem dX9_readRising_17 : decode cX9_readRising 17 = .ok (.iconst 4, 1) := by decide +kernel
theorem dX9_readRising_18 : decode cX9_readRising 18 = .ok (.invokevirtual 81, 3) := by decide +kernel
theorem dX9_readRising_21 : decode cX9_readRising 21 = .ok (.iload_n 2, 1) := by decide +kernel
theorem dX9_readRising_22 : decode cX9_readRising 22 = .ok (.ireturn, 1) := by decide +kernel
theorem dX9_readPrefix_0 : decode cX9_readPrefix 0 = .ok (.aload_n 0, 1) := by decide +kernel
theorem dX9_readPrefix_1 : decode cX9_readPrefix 1 = .ok (.invokevirtual 149, 3) := by decide +kernel
theorem dX9_readPrefix_4 : decode cX9_readPrefix 4 = .ok (.iconst 0, 1) := by decide +kernel
theorem dX9_readPrefix_5 : decode cX9_readPrefix 5 = .ok (.istore_n 1, 1) := by decide +kernel
theorem dX9_readPrefix_6 : decode cX9_readPrefix 6 = .ok (.iload_n 1, 1) := by decide +kernel
theorem dX9_readPrefix_7 : decode cX9_readPrefix 7 = .ok (.aload_n 0, 1) := by decide +kernel
theorem dX9_readPrefix_8 : decode cX9_readPrefix 8 = .ok (.getfield 61, 3) := by decide +kernel
theorem dX9_readPrefix_11 : decode cX9_readPrefix 11 = .ok (.if_icmp .ge 37, 3) := by decide +kernel
theorem dX9_readPrefix_14 : decode cX9_readPrefix 14 = .ok (.aload_n 0, 1) := by decide +kernel
theorem dX9_readPrefix_15 : decode cX9_readPrefix 15 = .ok (.getfield 12, 3) := by decide +kernel
theorem dX9_readPrefix_18 : decode cX9_readPrefix 18 = .ok (.invokevirtual 92, 3) := by decide +kernel
theorem dX9_readPrefix_21 : decode cX9_readPrefix 21 = .ok (.ifCond .eq 27, 3) := by decide +kernel
theorem dX9_readPrefix_24 : decode cX9_readPrefix 24 = .ok (.aload_n 0, 1) := by decide +kernel
theorem dX9_readPrefix_25 : decode cX9_readPrefix 25 = .ok (.getfield 47, 3) := by decide +kernel
theorem dX9_readPrefix_28 : decode cX9_readPrefix 28 = .ok (.aload_n 0, 1) := by decide +kernel
theorem dX9_readPrefix_29 : decode cX9_readPrefix 29 = .ok (.getfield 31, 3) := by decide +kernel
theorem dX9_readPrefix_32 : decode cX9_readPrefix 32 = .ok (.aload_n 0, 1) := by decide +kernel
theorem dX9_readPrefix_33 : decode cX9_readPrefix 33 = .ok (.getfield 12, 3) := by decide +kernel
theorem dX9_readPrefix_36 : decode cX9_readPrefix 36 = .ok (.invokevirtual 152, 3) := by decide +kernel
theorem dX9_readPrefix_39 : decode cX9_readPrefix 39 = .ok (.invokevirtual 120, 3) := by decide +kernel
theorem dX9_readPrefix_42 : decode cX9_readPrefix 42 = .ok (.iinc 1 1, 3) := by decide +kernel
theorem dX9_readPrefix_45 : decode cX9_readPrefix 45 = .ok (.goto (-39), 3) := by decide +kernel
theorem dX9_readPrefix_48 : decode cX9_readPrefix 48 = .ok (.aload_n 0, 1) := by decide +kernel
theorem dX9_readPrefix_49 : decode cX9_readPrefix 49 = .ok (.getfield 12, 3) := by decide +kernel
theorem dX9_readPrefix_52 : decode cX9_readPrefix 52 = .ok (.invokevirtual 146, 3) := by decide +kernel
theorem dX9_readPrefix_55 : decode cX9_readPrefix 55 = .ok (.return_, 1) := by decide +kernel
theorem dX9_readLengths_0 : decode cX9_readLengths 0 = .ok (.aload_n 0, 1) := by decide +kernel
theorem dX9_readLengths_1 : decode cX9_readLengths 1 = .ok (.getfield 31, 3) := by decide +kernel
theorem dX9_readLengths_4 : decode cX9_readLengths 4 = .ok (.invokevirtual 156, 3) := by decide +kernel
theorem dX9_readLengths_7 : decode cX9_readLengths 7 = .ok (.aload_n 0, 1) := by decide +kernel
theorem dX9_readLengths_8 : decode cX9_readLengths 8 = .ok (.getfield 12, 3) := by decide +kernel
theorem dX9_readLengths_11 : decode cX9_readLengths 11 = .ok (.invokevirtual 78, 3) := by decide +kernel
theorem dX9_readLengths_14 : decode cX9_readLengths 14 = .ok (.iconst 1, 1) := by decide +kernel
theorem dX9_readLengths_15 : decode cX9_readLengths 15 = .ok (.iadd, 1) := by decide +kernel
theorem dX9_readLengths_16 : decode cX9_readLengths 16 = .ok (.istore_n 1, 1) := by decide +kernel
theorem dX9_readLengths_17 : decode cX9_readLengths 17 = .ok (.iconst (-1), 1) := by decide +kernel
theorem dX9_readLengths_18 : decode cX9_readLengths 18 = .ok (.istore_n 2, 1) := by decide +kernel
theorem dX9_readLengths_19 : decode cX9_readLengths 19 = .ok (.iconst 0, 1) := by decide +kernel
theorem dX9_readLengths_20 : decode cX9_readLengths 20 = .ok (.istore_n 3, 1) := by decide +kernel
theorem dX9_readLengths_21 : decode cX9_readLengths 21 = .ok (.iload_n 3, 1) := by decide +kernel
theorem dX9_readLengths_22 : decode cX9_readLengths 22 = .ok (.iload_n 1, 1) := by decide +kernel
theorem dX9_readLengths_23 : decode cX9_readLengths 23 = .ok (.if_icmp .ge 65, 3) := by decide +kernel
theorem dX9_readLengths_26 : decode cX9_readLengths 26 = .ok (.aload_n 0, 1) := by decide +kernel
theorem dX9_readLengths_27 : decode cX9_readLengths 27 = .ok (.getfield 12, 3) := by decide +kernel
theorem dX9_readLengths_30 : decode cX9_readLengths 30 = .ok (.invokevirtual 92, 3) := by decide +kernel
theorem dX9_readLengths_33 : decode cX9_readLengths 33 = .ok (.ifCond .eq 55, 3) := by decide +kernel
theorem dX9_readLengths_36 : decode cX9_readLengths 36 = .ok (.aload_n 0, 1) := by decide +kernel
theorem dX9_readLengths_37 : decode cX9_readLengths 37 = .ok (.iload_n 2, 1) := by decide +kernel
theorem dX9_readLengths_38 : decode cX9_readLengths 38 = .ok (.invokevirtual 135, 3) := by decide +kernel
theorem dX9_readLengths_41 : decode cX9_readLengths 41 = .ok (.istore_n 2, 1) := by decide +kernel
theorem dX9_readLengths_42 : decode cX9_readLengths 42 = .ok (.aload_n 0, 1) := by decide +kernel
theorem dX9_readLengths_43 : decode cX9_readLengths 43 = .ok (.getfield 12, 3) := by decide +kernel
theorem dX9_readLengths_46 : decode cX9_readLengths 46 = .ok (.invokevirtual 78, 3) := by decide +kernel
theorem dX9_readLengths_49 : decode cX9_readLengths 49 = .ok (.istore 4, 2) := by decide +kernel
theorem dX9_readLengths_51 : decode cX9_readLengths 51 = .ok (.iload 4, 2) := by decide +kernel
theorem dX9_readLengths_53 : decode cX9_readLengths 53 = .ok (.iconst 1, 1) := by decide +kernel
theorem dX9_readLengths_54 : decode cX9_readLengths 54 = .ok (.if_icmp .lt 10, 3) := by decide +kernel
theorem dX9_readLengths_57 : decode cX9_readLengths 57 = .ok (.iload 4, 2) := by decide +kernel
theorem dX9_readLengths_59 : decode cX9_readLengths 59 = .ok (.bipush 15, 2) := by decide +kernel
theorem dX9_readLengths_61 : decode cX9_readLengths 61 = .ok (.if_icmp .le 11, 3) := by decide +kernel
theorem dX9_readLengths_64 : decode cX9_readLengths 64 = .ok (.aload_n 0, 1) := by decide +kernel
theorem dX9_readLengths_65 : decode cX9_readLengths 65 = .ok (.getfield 12, 3) := by decide +kernel
theorem dX9_readLengths_68 : decode cX9_readLengths 68 = .ok (.iconst 4, 1) := by decide +kernel
theorem dX9_readLengths_69 : decode cX9_readLengths 69 = .ok (.invokevirtual 81, 3) := by decide +kernel
theorem dX9_readLengths_72 : decode cX9_readLengths 72 = .ok (.aload_n 0, 1) := by decide +kernel
theorem dX9_readLengths_73 : decode cX9_readLengths 73 = .ok (.getfield 31, 3) := by decide +kernel
theorem dX9_readLengths_76 : decode cX9_readLengths 76 = .ok (.iload_n 2, 1) := by decide +kernel
theorem dX9_readLengths_77 : decode cX9_readLengths 77 = .ok (.iload 4, 2) := by decide +kernel
theorem dX9_readLengths_79 : decode cX9_readLengths 79 = .ok (.invokevirtual 158, 3) := by decide +kernel
theorem dX9_readLengths_82 : decode cX9_readLengths 82 = .ok (.iinc 3 1, 3) := by decide +kernel
theorem dX9_readLengths_85 : decode cX9_readLengths 85 = .ok (.goto (-64), 3) := by decide +kernel
theorem dX9_readLengths_88 : decode cX9_readLengths 88 = .ok (.aload_n 0, 1) := by decide +kernel
theorem dX9_readLengths_89 : decode cX9_readLengths 89 = .ok (.getfield 31, 3) := by decide +kernel
theorem dX9_readLengths_92 : decode cX9_readLengths 92 = .ok (.invokevirtual 162, 3) := by decide +kernel
theorem dX9_readLengths_95 : decode cX9_readLengths 95 = .ok (.ifCond .ne 11, 3) := by decide +kernel
theorem dX9_readLengths_98 : decode cX9_readLengths 98 = .ok (.aload_n 0, 1) := by decide +kernel
theorem dX9_readLengths_99 : decode cX9_readLengths 99 = .ok (.getfield 12, 3) := by decide +kernel
theorem dX9_readLengths_102 : decode cX9_readLengths 102 = .ok (.iconst 4, 1) := by decide +kernel
theorem dX9_readLengths_103 : decode cX9_readLengths 103 = .ok (.invokevirtual 81, 3) := by decide +kernel
theorem dX9_readLengths_106 : decode cX9_readLengths 106 = .ok (.aload_n 0, 1) := by decide +kernel
theorem dX9_readLengths_107 : decode cX9_readLengths 107 = .ok (.getfield 31, 3) := by decide +kernel
theorem dX9_readLengths_110 : decode cX9_readLengths 110 = .ok (.invokevirtual 165, 3) := by decide +kernel
theorem dX9_readLengths_113 : decode cX9_readLengths 113 = .ok (.return_, 1) := by decide +kernel
theorem dX9_undoFilters_0 : decode cX9_undoFilters 0 = .ok (.aload_n 0, 1) := by decide +kernel
theorem dX9_undoFilters_1 : decode cX9_undoFilters 1 = .ok (.getfield 54, 3) := by decide +kernel
theorem dX9_undoFilters_4 : decode cX9_undoFilters 4 = .ok (.iconst 2, 1) := by decide +kernel
theorem dX9_undoFilters_5 : decode cX9_undoFilters 5 = .ok (.invokestatic 168, 3) := by decide +kernel
theorem dX9_undoFilters_8 : decode cX9_undoFilters 8 = .ok (.iconst 1, 1) := by decide +kernel
theorem dX9_undoFilters_9 : decode cX9_undoFilters 9 = .ok (.isub, 1) := by decide +kernel
theorem dX9_undoFilters_10 : decode cX9_undoFilters 10 = .ok (.istore_n 1, 1) := by decide +kernel
theorem dX9_undoFilters_11 : decode cX9_undoFilters 11 = .ok (.iload_n 1, 1) := by decide +kernel
theorem dX9_undoFilters_12 : decode cX9_undoFilters 12 = .ok (.ifCond .lt 47, 3) := by decide +kernel
theorem dX9_undoFilters_15 : decode cX9_undoFilters 15 = .ok (.aload_n 0, 1) := by decide +kernel
theorem dX9_undoFilters_16 : decode cX9_undoFilters 16 = .ok (.getfield 38, 3) := by decide +kernel
theorem dX9_undoFilters_19 : decode cX9_undoFilters 19 = .ok (.aload_n 0, 1) := by decide +kernel
theorem dX9_undoFilters_20 : decode cX9_undoFilters 20 = .ok (.getfield 18, 3) := by decide +kernel
theorem dX9_undoFilters_23 : decode cX9_undoFilters 23 = .ok (.iload_n 1, 1) := by decide +kernel
theorem dX9_undoFilters_24 : decode cX9_undoFilters 24 = .ok (.iaload, 1) := by decide +kernel
theorem dX9_undoFilters_25 : decode cX9_undoFilters 25 = .ok (.aload_n 0, 1) := by decide +kernel
theorem dX9_undoFilters_26 : decode cX9_undoFilters 26 = .ok (.getfield 22, 3) := by decide +kernel
theorem dX9_undoFilters_29 : decode cX9_undoFilters 29 = .ok (.iload_n 1, 1) := by decide +kernel
theorem dX9_undoFilters_30 : decode cX9_undoFilters 30 = .ok (.iaload, 1) := by decide +kernel
theorem dX9_undoFilters_31 : decode cX9_undoFilters 31 = .ok (.aload_n 0, 1) := by decide +kernel
theorem dX9_undoFilters_32 : decode cX9_undoFilters 32 = .ok (.getfield 47, 3) := by decide +kernel
theorem dX9_undoFilters_35 : decode cX9_undoFilters 35 = .ok (.aload_n 0, 1) := by decide +kernel
theorem dX9_undoFilters_36 : decode cX9_undoFilters 36 = .ok (.getfield 51, 3) := by decide +kernel
theorem dX9_undoFilters_39 : decode cX9_undoFilters 39 = .ok (.invokevirtual 174, 3) := by decide +kernel
theorem dX9_undoFilters_42 : decode cX9_undoFilters 42 = .ok (.aload_n 0, 1) := by decide +kernel
theorem dX9_undoFilters_43 : decode cX9_undoFilters 43 = .ok (.getfield 47, 3) := by decide +kernel
theorem dX9_undoFilters_46 : decode cX9_undoFilters 46 = .ok (.aload_n 0, 1) := by decide +kernel
theorem dX9_undoFilters_47 : decode cX9_undoFilters 47 = .ok (.getfield 51, 3) := by decide +kernel
theorem dX9_undoFilters_50 : decode cX9_undoFilters 50 = .ok (.invokevirtual 114, 3) := by decide +kernel
theorem dX9_undoFilters_53 : decode cX9_undoFilters 53 = .ok (.iinc 1 (-1), 3) := by decide +kernel
theorem dX9_undoFilters_56 : decode cX9_undoFilters 56 = .ok (.goto (-45), 3) := by decide +kernel
theorem dX9_undoFilters_59 : decode cX9_undoFilters 59 = .ok (.return_, 1) := by decide +kernel
theorem dX10_init_0 : decode cX10_init 0 = .ok (.aload_n 0, 1) := by decide +kernel
theorem dX10_init_1 : decode cX10_init 1 = .ok (.invokespecial 1, 3) := by decide +kernel
theorem dX10_init_4 : decode cX10_init 4 = .ok (.aload_n 0, 1) := by decide +kernel
theorem dX10_init_5 : decode cX10_init 5 = .ok (.new 7, 3) := by decide +kernel
theorem dX10_init_8 : decode cX10_init 8 = .ok (.dup, 1) := by decide +kernel
theorem dX10_init_9 : decode cX10_init 9 = .ok (.sipush 300, 3) := by decide +kernel
theorem dX10_init_12 : decode cX10_init 12 = .ok (.invokespecial 11, 3) := by decide +kernel
theorem dX10_init_15 : decode cX10_init 15 = .ok (.putfield 14, 3) := by decide +kernel
theorem dX10_init_18 : decode cX10_init 18 = .ok (.aload_n 0, 1) := by decide +kernel
theorem dX10_init_19 : decode cX10_init 19 = .ok (.new 7, 3) := by decide +kernel
theorem dX10_init_22 : decode cX10_init 22 = .ok (.dup, 1) := by decide +kernel
theorem dX10_init_23 : decode cX10_init 23 = .ok (.sipush 1024, 3) := by decide +kernel
theorem dX10_init_26 : decode cX10_init 26 = .ok (.invokespecial 11, 3) := by decide +kernel
theorem dX10_init_29 : decode cX10_init 29 = .ok (.putfield 18, 3) := by decide +kernel
theorem dX10_init_32 : decode cX10_init 32 = .ok (.aload_n 0, 1) := by decide +kernel
theorem dX10_init_33 : decode cX10_init 33 = .ok (.new 7, 3) := by decide +kernel
theorem dX10_init_36 : decode cX10_init 36 = .ok (.dup, 1) := by decide +kernel
theorem dX10_init_37 : decode cX10_init 37 = .ok (.sipush 1024, 3) := by decide +kernel
theorem dX10_init_40 : decode cX10_init 40 = .ok (.invokespecial 11, 3) := by decide +kernel
theorem dX10_init_43 : decode cX10_init 43 = .ok (.putfield 21, 3) := by decide +kernel
theorem dX10_init_46 : decode cX10_init 46 = .ok (.aload_n 0, 1) := by decide +kernel
theorem dX10_init_47 : decode cX10_init 47 = .ok (.new 7, 3) := by decide +kernel
theorem dX10_init_50 : decode cX10_init 50 = .ok (.dup, 1) := by decide +kernel
theorem dX10_init_51 : decode cX10_init 51 = .ok (.sipush 300, 3) := by decide +kernel
theorem dX10_init_54 : decode cX10_init 54 = .ok (.invokespecial 11, 3) := by decide +kernel
theorem dX10_init_57 : decode cX10_init 57 = .ok (.putfield 24, 3) := by decide +kernel
theorem dX10_init_60 : decode cX10_init 60 = .ok (.aload_n 0, 1) := by decide +kernel
theorem dX10_init_61 : decode cX10_init 61 = .ok (.new 7, 3) := by decide +kernel
theorem dX10_init_64 : decode cX10_init 64 = .ok (.dup, 1) := by decide +kernel
theorem dX10_init_65 : decode cX10_init 65 = .ok (.sipush 300, 3) := by decide +kernel
theorem dX10_init_68 : decode cX10_init 68 = .ok (.invokespecial 11, 3) := by decide +kernel
theorem dX10_init_71 : decode cX10_init 71 = .ok (.putfield 27, 3) := by decide +kernel
theorem dX10_init_74 : decode cX10_init 74 = .ok (.aload_n 0, 1) := by decide +kernel
theorem dX10_init_75 : decode cX10_init 75 = .ok (.new 30, 3) := by decide +kernel
theorem dX10_init_78 : decode cX10_init 78 = .ok (.dup, 1) := by decide +kernel
theorem dX10_init_79 : decode cX10_init 79 = .ok (.invokespecial 32, 3) := by decide +kernel
theorem dX10_init_82 : decode cX10_init 82 = .ok (.putfield 33, 3) := by decide +kernel
theorem dX10_init_85 : decode cX10_init 85 = .ok (.aload_n 0, 1) := by decide +kernel
theorem dX10_init_86 : decode cX10_init 86 = .ok (.new 37, 3) := by decide +kernel
theorem dX10_init_89 : decode cX10_init 89 = .ok (.dup, 1) := by decide +kernel
theorem dX10_init_90 : decode cX10_init 90 = .ok (.invokespecial 39, 3) := by decide +kernel
theorem dX10_init_93 : decode cX10_init 93 = .ok (.putfield 40, 3) := by decide +kernel
theorem dX10_init_96 : decode cX10_init 96 = .ok (.aload_n 0, 1) := by decide +kernel
theorem dX10_init_97 : decode cX10_init 97 = .ok (.new 44, 3) := by decide +kernel
theorem dX10_init_100 : decode cX10_init 100 = .ok (.dup, 1) := by decide +kernel
theorem dX10_init_101 : decode cX10_init 101 = .ok (.invokespecial 46, 3) := by decide +kernel
theorem dX10_init_104 : decode cX10_init 104 = .ok (.putfield 47, 3) := by decide +kernel
theorem dX10_init_107 : decode cX10_init 107 = .ok (.aload_n 0, 1) := by decide +kernel
theorem dX10_init_108 : decode cX10_init 108 = .ok (.new 51, 3) := by decide +kernel
theorem dX10_init_111 : decode cX10_init 111 = .ok (.dup, 1) := by decide +kernel
theorem dX10_init_112 : decode cX10_init 112 = .ok (.invokespecial 53, 3) := by decide +kernel
theorem dX10_init_115 : decode cX10_init 115 = .ok (.putfield 54, 3) := by decide +kernel
theorem dX10_init_118 : decode cX10_init 118 = .ok (.aload_n 0, 1) := by decide +kernel
theorem dX10_init_119 : decode cX10_init 119 = .ok (.new 58, 3) := by decide +kernel
theorem dX10_init_122 : decode cX10_init 122 = .ok (.dup, 1) := by decide +kernel
theorem dX10_init_123 : decode cX10_init 123 = .ok (.invokespecial 60, 3) := by decide +kernel
theorem dX10_init_126 : decode cX10_init 126 = .ok (.putfield 61, 3) := by decide +kernel
theorem dX10_init_129 : decode cX10_init 129 = .ok (.aload_n 0, 1) := by decide +kernel
theorem dX10_init_130 : decode cX10_init 130 = .ok (.bipush 6, 2) := by decide +kernel
theorem dX10_init_132 : decode cX10_init 132 = .ok (.newarray .int, 2) := by decide +kernel
theorem dX10_init_134 : decode cX10_init 134 = .ok (.putfield 65, 3) := by decide +kernel
theorem dX10_init_137 : decode cX10_init 137 = .ok (.aload_n 0, 1) := by decide +kernel
theorem dX10_init_138 : decode cX10_init 138 = .ok (.bipush 64, 2) := by decide +kernel
theorem dX10_init_140 : decode cX10_init 140 = .ok (.newarray .int, 2) := by decide +kernel
theorem dX10_init_142 : decode cX10_init 142 = .ok (.putfield 69, 3) := by decide +kernel
theorem dX10_init_145 : decode cX10_init 145 = .ok (.aload_n 0, 1) := by decide +kernel
theorem dX10_init_146 : decode cX10_init 146 = .ok (.iconst 0, 1) := by decide +kernel
theorem dX10_init_147 : decode cX10_init 147 = .ok (.putfield 72, 3) := by decide +kernel
theorem dX10_init_150 : decode cX10_init 150 = .ok (.aload_n 0, 1) := by decide +kernel
theorem dX10_init_151 : decode cX10_init 151 = .ok (.bipush (-3), 2) := by decide +kernel
theorem dX10_init_153 : decode cX10_init 153 = .ok (.putfield 76, 3) := by decide +kernel
theorem dX10_init_156 : decode cX10_init 156 = .ok (.aload_n 0, 1) := by decide +kernel
theorem dX10_init_157 : decode cX10_init 157 = .ok (.getfield 69, 3) := by decide +kernel
theorem dX10_init_160 : decode cX10_init 160 = .ok (.bipush (-3), 2) := by decide +kernel
theorem dX10_init_162 : decode cX10_init 162 = .ok (.invokestatic 80, 3) := by decide +kernel
theorem dX10_init_165 : decode cX10_init 165 = .ok (.return_, 1) := by decide +kernel
theorem dX10_clear_0 : decode cX10_clear 0 = .ok (.aload_n 0, 1) := by decide +kernel
theorem dX10_clear_1 : decode cX10_clear 1 = .ok (.getfield 14, 3) := by decide +kernel
theorem dX10_clear_4 : decode cX10_clear 4 = .ok (.invokevirtual 86, 3) := by decide +kernel
theorem dX10_clear_7 : decode cX10_clear 7 = .ok (.istore_n 1, 1) := by decide +kernel
theorem dX10_clear_8 : decode cX10_clear 8 = .ok (.aload_n 0, 1) := by decide +kernel
theorem dX10_clear_9 : decode cX10_clear 9 = .ok (.getfield 14, 3) := by decide +kernel
theorem dX10_clear_12 : decode cX10_clear 12 = .ok (.invokevirtual 90, 3) := by decide +kernel
theorem dX10_clear_15 : decode cX10_clear 15 = .ok (.iload_n 1, 1) := by decide +kernel
theorem dX10_clear_16 : decode cX10_clear 16 = .ok (.ireturn, 1) := by decide +kernel
theorem dX10_add_0 : decode cX10_add 0 = .ok (.iload_n 1, 1) := by decide +kernel
theorem dX10_add_1 : decode cX10_add 1 = .ok (.invokestatic 93, 3) := by decide +kernel
theorem dX10_add_4 : decode cX10_add 4 = .ok (.ifCond .ne 5, 3) := by decide +kernel
theorem dX10_add_7 : decode cX10_add 7 = .ok (.iconst (-1), 1) := by decide +kernel
theorem dX10_add_8 : decode cX10_add 8 = .ok (.ireturn, 1) := by decide +kernel
theorem dX10_add_9 : decode cX10_add 9 = .ok (.aload_n 0, 1) := by decide +kernel
theorem dX10_add_10 : decode cX10_add 10 = .ok (.getfield 14, 3) := by decide +kernel
theorem dX10_add_13 : decode cX10_add 13 = .ok (.invokevirtual 86, 3) := by decide +kernel
theorem dX10_add_16 : decode cX10_add 16 = .ok (.sipush 300, 3) := by decide +kernel
theorem dX10_add_19 : decode cX10_add 19 = .ok (.if_icmp .lt 6, 3) := by decide +kernel
theorem dX10_add_22 : decode cX10_add 22 = .ok (.bipush (-2), 2) := by decide +kernel
theorem dX10_add_24 : decode cX10_add 24 = .ok (.ireturn, 1) := by decide +kernel
theorem dX10_add_25 : decode cX10_add 25 = .ok (.aload_n 0, 1) := by decide +kernel
theorem dX10_add_26 : decode cX10_add 26 = .ok (.getfield 14, 3) := by decide +kernel
theorem dX10_add_29 : decode cX10_add 29 = .ok (.iload_n 1, 1) := by decide +kernel
theorem dX10_add_30 : decode cX10_add 30 = .ok (.invokevirtual 97, 3) := by decide +kernel
theorem dX10_add_33 : decode cX10_add 33 = .ok (.aload_n 0, 1) := by decide +kernel
theorem dX10_add_34 : decode cX10_add 34 = .ok (.getfield 14, 3) := by decide +kernel
theorem dX10_add_37 : decode cX10_add 37 = .ok (.invokevirtual 86, 3) := by decide +kernel
theorem dX10_add_40 : decode cX10_add 40 = .ok (.ireturn, 1) := by decide +kernel
theorem dX10_fill_0 : decode cX10_fill 0 = .ok (.iload_n 1, 1) := by decide +kernel
theorem dX10_fill_1 : decode cX10_fill 1 = .ok (.iconst 1, 1) := by decide +kernel
theorem dX10_fill_2 : decode cX10_fill 2 = .ok (.if_icmp .lt 19, 3) := by decide +kernel
theorem dX10_fill_5 : decode cX10_fill 5 = .ok (.iload_n 1, 1) := by decide +kernel
theorem dX10_fill_6 : decode cX10_fill 6 = .ok (.sipush 300, 3) := by decide +kernel
theorem dX10_fill_9 : decode cX10_fill 9 = .ok (.if_icmp .gt 12, 3) := by decide +kernel
theorem dX10_fill_12 : decode cX10_fill 12 = .ok (.iload_n 3, 1) := by decide +kernel
theorem dX10_fill_13 : decode cX10_fill 13 = .ok (.ifCond .lt 8, 3) := by decide +kernel
theorem dX10_fill_16 : decode cX10_fill 16 = .ok (.iload_n 3, 1) := by decide +kernel
theorem dX10_fill_17 : decode cX10_fill 17 = .ok (.iconst 3, 1) := by decide +kernel
theorem dX10_fill_18 : decode cX10_fill 18 = .ok (.if_icmp .le 5, 3) := by decide +kernel
theorem dX10_fill_21 : decode cX10_fill 21 = .ok (.iconst (-1), 1) := by decide +kernel
theorem dX10_fill_22 : decode cX10_fill 22 = .ok (.ireturn, 1) := by decide +kernel
theorem dX10_fill_23 : decode cX10_fill 23 = .ok (.iload_n 1, 1) := by decide +kernel
theorem dX10_fill_24 : decode cX10_fill 24 = .ok (.sipush 300, 3) := by decide +kernel
theorem dX10_fill_27 : decode cX10_fill 27 = .ok (.aload_n 0, 1) := by decide +kernel
theorem dX10_fill_28 : decode cX10_fill 28 = .ok (.getfield 14, 3) := by decide +kernel
theorem dX10_fill_31 : decode cX10_fill 31 = .ok (.invokevirtual 86, 3) := by decide +kernel
theorem dX10_fill_34 : decode cX10_fill 34 = .ok (.isub, 1) := by decide +kernel
theorem dX10_fill_35 : decode cX10_fill 35 = .ok (.if_icmp .le 6, 3) := by decide +kernel
theorem dX10_fill_38 : decode cX10_fill 38 = .ok (.bipush (-2), 2) := by decide +kernel
theorem dX10_fill_40 : decode cX10_fill 40 = .ok (.ireturn, 1) := by decide +kernel
theorem dX10_fill_41 : decode cX10_fill 41 = .ok (.aload_n 0, 1) := by decide +kernel
theorem dX10_fill_42 : decode cX10_fill 42 = .ok (.getfield 14, 3) := by decide +kernel
theorem dX10_fill_45 : decode cX10_fill 45 = .ok (.invokevirtual 86, 3) := by decide +kernel
theorem dX10_fill_48 : decode cX10_fill 48 = .ok (.iload_n 1, 1) := by decide +kernel
theorem dX10_fill_49 : decode cX10_fill 49 = .ok (.iadd, 1) := by decide +kernel
theorem dX10_fill_50 : decode cX10_fill 50 = .ok (.istore 4, 2) := by decide +kernel
theorem dX10_fill_52 : decode cX10_fill 52 = .ok (.iload_n 2, 1) := by decide +kernel
theorem dX10_fill_53 : decode cX10_fill 53 = .ok (.istore 5, 2) := by decide +kernel
theorem dX10_fill_55 : decode cX10_fill 55 = .ok (.iconst 0, 1) := by decide +kernel
theorem dX10_fill_56 : decode cX10_fill 56 = .ok (.istore 6, 2) := by decide +kernel
theorem dX10_fill_58 : decode cX10_fill 58 = .ok (.iconst 0, 1) := by decide +kernel
theorem dX10_fill_59 : decode cX10_fill 59 = .ok (.istore 7, 2) := by decide +kernel
theorem dX10_fill_61 : decode cX10_fill 61 = .ok (.iload 7, 2) := by decide +kernel
theorem dX10_fill_63 : decode cX10_fill 63 = .ok (.iload_n 1, 1) := by decide +kernel
theorem dX10_fill_64 : decode cX10_fill 64 = .ok (.if_icmp .ge 111, 3) := by decide +kernel
theorem dX10_fill_67 : decode cX10_fill 67 = .ok (.aload_n 0, 1) := by decide +kernel
theorem dX10_fill_68 : decode cX10_fill 68 = .ok (.getfield 14, 3) := by decide +kernel
theorem dX10_fill_71 : decode cX10_fill 71 = .ok (.invokevirtual 86, 3) := by decide +kernel
theorem dX10_fill_74 : decode cX10_fill 74 = .ok (.iload 4, 2) := by decide +kernel
theorem dX10_fill_76 : decode cX10_fill 76 = .ok (.if_icmp .ge 99, 3) := by decide +kernel
theorem dX10_fill_79 : decode cX10_fill 79 = .ok (.iload 5, 2) := by decide +kernel
theorem dX10_fill_81 : decode cX10_fill 81 = .ok (.ldc 100, 2) := by decide +kernel
theorem dX10_fill_83 : decode cX10_fill 83 = .ok (.imul, 1) := by decide +kernel
theorem dX10_fill_84 : decode cX10_fill 84 = .ok (.sipush 12345, 3) := by decide +kernel
theorem dX10_fill_87 : decode cX10_fill 87 = .ok (.iadd, 1) := by decide +kernel
theorem dX10_fill_88 : decode cX10_fill 88 = .ok (.istore 5, 2) := by decide +kernel
theorem dX10_fill_90 : decode cX10_fill 90 = .ok (.iload 5, 2) := by decide +kernel
theorem dX10_fill_92 : decode cX10_fill 92 = .ok (.bipush 16, 2) := by decide +kernel
theorem dX10_fill_94 : decode cX10_fill 94 = .ok (.iushr, 1) := by decide +kernel
theorem dX10_fill_95 : decode cX10_fill 95 = .ok (.istore 8, 2) := by decide +kernel
theorem dX10_fill_97 : decode cX10_fill 97 = .ok (.iload 8, 2) := by decide +kernel
theorem dX10_fill_99 : decode cX10_fill 99 = .ok (.iload_n 3, 1) := by decide +kernel
theorem dX10_fill_100 : decode cX10_fill 100 = .ok (.iload 6, 2) := by decide +kernel
theorem dX10_fill_102 : decode cX10_fill 102 = .ok (.invokestatic 101, 3) := by decide +kernel
theorem dX10_fill_105 : decode cX10_fill 105 = .ok (.istore 9, 2) := by decide +kernel
theorem dX10_fill_107 : decode cX10_fill 107 = .ok (.iload_n 3, 1) := by decide +kernel
theorem dX10_fill_108 : decode cX10_fill 108 = .ok (.iconst 2, 1) := by decide +kernel
theorem dX10_fill_109 : decode cX10_fill 109 = .ok (.if_icmp .ne 16, 3) := by decide +kernel
theorem dX10_fill_112 : decode cX10_fill 112 = .ok (.iconst 1, 1) := by decide +kernel
theorem dX10_fill_113 : decode cX10_fill 113 = .ok (.iload 8, 2) := by decide +kernel
theorem dX10_fill_115 : decode cX10_fill 115 = .ok (.bipush 8, 2) := by decide +kernel
theorem dX10_fill_117 : decode cX10_fill 117 = .ok (.idiv, 1) := by decide +kernel
theorem dX10_fill_118 : decode cX10_fill 118 = .ok (.bipush 8, 2) := by decide +kernel
theorem dX10_fill_120 : decode cX10_fill 120 = .ok (.irem, 1) := by decide +kernel
theorem dX10_fill_121 : decode cX10_fill 121 = .ok (.iadd, 1) := by decide +kernel
theorem dX10_fill_122 : decode cX10_fill 122 = .ok (.goto 4, 3) := by decide +kernel
theorem dX10_fill_125 : decode cX10_fill 125 = .ok (.iconst 1, 1) := by decide +kernel
theorem dX10_fill_126 : decode cX10_fill 126 = .ok (.istore 10, 2) := by decide +kernel
theorem dX10_fill_128 : decode cX10_fill 128 = .ok (.iconst 0, 1) := by decide +kernel
theorem dX10_fill_129 : decode cX10_fill 129 = .ok (.istore 11, 2) := by decide +kernel
theorem dX10_fill_131 : decode cX10_fill 131 = .ok (.iload 11, 2) := by decide +kernel
theorem dX10_fill_133 : decode cX10_fill 133 = .ok (.iload 10, 2) := by decide +kernel
theorem dX10_fill_135 : decode cX10_fill 135 = .ok (.if_icmp .ge 30, 3) := by decide +kernel
theorem dX10_fill_138 : decode cX10_fill 138 = .ok (.aload_n 0, 1) := by decide +kernel
theorem dX10_fill_139 : decode cX10_fill 139 = .ok (.getfield 14, 3) := by decide +kernel
theorem dX10_fill_142 : decode cX10_fill 142 = .ok (.invokevirtual 86, 3) := by decide +kernel
theorem dX10_fill_145 : decode cX10_fill 145 = .ok (.iload 4, 2) := by decide +kernel
theorem dX10_fill_147 : decode cX10_fill 147 = .ok (.if_icmp .ge 18, 3) := by decide +kernel
theorem dX10_fill_150 : decode cX10_fill 150 = .ok (.aload_n 0, 1) := by decide +kernel
theorem dX10_fill_151 : decode cX10_fill 151 = .ok (.getfield 14, 3) := by decide +kernel
theorem dX10_fill_154 : decode cX10_fill 154 = .ok (.iload 9, 2) := by decide +kernel
theorem dX10_fill_156 : decode cX10_fill 156 = .ok (.invokevirtual 97, 3) := by decide +kernel
theorem dX10_fill_159 : decode cX10_fill 159 = .ok (.iinc 11 1, 3) := by decide +kernel
theorem dX10_fill_162 : decode cX10_fill 162 = .ok (.goto (-31), 3) := by decide +kernel
theorem dX10_fill_165 : decode cX10_fill 165 = .ok (.iload 9, 2) := by decide +kernel
theorem dX10_fill_167 : decode cX10_fill 167 = .ok (.istore 6, 2) := by decide +kernel
theorem dX10_fill_169 : decode cX10_fill 169 = .ok (.iinc 7 1, 3) := by decide +kernel
theorem dX10_fill_172 : decode cX10_fill 172 = .ok (.goto (-111), 3) := by decide +kernel
theorem dX10_fill_175 : decode cX10_fill 175 = .ok (.aload_n 0, 1) := by decide +kernel
theorem dX10_fill_176 : decode cX10_fill 176 = .ok (.getfield 14, 3) := by decide +kernel
theorem dX10_fill_179 : decode cX10_fill 179 = .ok (.invokevirtual 86, 3) := by decide +kernel
theorem dX10_fill_182 : decode cX10_fill 182 = .ok (.ireturn, 1) := by decide +kernel
theorem dX10_size_0 : decode cX10_size 0 = .ok (.iload_n 1, 1) := by decide +kernel
theorem dX10_size_1 : decode cX10_size 1 = .ok (.ifCond .eq 10, 3) := by decide +kernel
theorem dX10_size_4 : decode cX10_size 4 = .ok (.iload_n 1, 1) := by decide +kernel
theorem dX10_size_5 : decode cX10_size 5 = .ok (.iconst 1, 1) := by decide +kernel
theorem dX10_size_6 : decode cX10_size 6 = .ok (.if_icmp .eq 5, 3) := by decide +kernel
theorem dX10_size_9 : decode cX10_size 9 = .ok (.iconst (-1), 1) := by decide +kernel
theorem dX10_size_10 : decode cX10_size 10 = .ok (.ireturn, 1) := by decide +kernel
theorem dX10_size_11 : decode cX10_size 11 = .ok (.aload_n 0, 1) := by decide +kernel
theorem dX10_size_12 : decode cX10_size 12 = .ok (.iload_n 1, 1) := by decide +kernel
theorem dX10_size_13 : decode cX10_size 13 = .ok (.invokevirtual 105, 3) := by decide +kernel
theorem dX10_size_16 : decode cX10_size 16 = .ok (.invokevirtual 86, 3) := by decide +kernel
theorem dX10_size_19 : decode cX10_size 19 = .ok (.ireturn, 1) := by decide +kernel
theorem dX10_octet_0 : decode cX10_octet 0 = .ok (.iload_n 1, 1) := by decide +kernel
theorem dX10_octet_1 : decode cX10_octet 1 = .ok (.ifCond .eq 10, 3) := by decide +kernel
theorem dX10_octet_4 : decode cX10_octet 4 = .ok (.iload_n 1, 1) := by decide +kernel
theorem dX10_octet_5 : decode cX10_octet 5 = .ok (.iconst 1, 1) := by decide +kernel
theorem dX10_octet_6 : decode cX10_octet 6 = .ok (.if_icmp .eq 5, 3) := by decide +kernel
theorem dX10_octet_9 : decode cX10_octet 9 = .ok (.iconst (-1), 1) := by decide +kernel
theorem dX10_octet_10 : decode cX10_octet 10 = .ok (.ireturn, 1) := by decide +kernel
theorem dX10_octet_11 : decode cX10_octet 11 = .ok (.aload_n 0, 1) := by decide +kernel
theorem dX10_octet_12 : decode cX10_octet 12 = .ok (.iload_n 1, 1) := by decide +kernel
theorem dX10_octet_13 : decode cX10_octet 13 = .ok (.invokevirtual 105, 3) := by decide +kernel
theorem dX10_octet_16 : decode cX10_octet 16 = .ok (.astore_n 3, 1) := by decide +kernel
theorem dX10_octet_17 : decode cX10_octet 17 = .ok (.aload_n 3, 1) := by decide +kernel
theorem dX10_octet_18 : decode cX10_octet 18 = .ok (.iload_n 2, 1) := by decide +kernel
theorem dX10_octet_19 : decode cX10_octet 19 = .ok (.invokevirtual 109, 3) := by decide +kernel
theorem dX10_octet_22 : decode cX10_octet 22 = .ok (.ifCond .eq 11, 3) := by decide +kernel
theorem dX10_octet_25 : decode cX10_octet 25 = .ok (.aload_n 3, 1) := by decide +kernel
theorem dX10_octet_26 : decode cX10_octet 26 = .ok (.iload_n 2, 1) := by decide +kernel
theorem dX10_octet_27 : decode cX10_octet 27 = .ok (.invokevirtual 112, 3) := by decide +kernel
theorem dX10_octet_30 : decode cX10_octet 30 = .ok (.goto 4, 3) := by decide +kernel
theorem dX10_octet_33 : decode cX10_octet 33 = .ok (.iconst (-1), 1) := by decide +kernel
theorem dX10_octet_34 : decode cX10_octet 34 = .ok (.ireturn, 1) := by decide +kernel
theorem dX10_filter_0 : decode cX10_filter 0 = .ok (.iload_n 1, 1) := by decide +kernel
theorem dX10_filter_1 : decode cX10_filter 1 = .ok (.iload_n 2, 1) := by decide +kernel
theorem dX10_filter_2 : decode cX10_filter 2 = .ok (.invokestatic 116, 3) := by decide +kernel
theorem dX10_filter_5 : decode cX10_filter 5 = .ok (.ifCond .ne 5, 3) := by decide +kernel
theorem dX10_filter_8 : decode cX10_filter 8 = .ok (.iconst (-1), 1) := by decide +kernel
theorem dX10_filter_9 : decode cX10_filter 9 = .ok (.ireturn, 1) := by decide +kernel
theorem dX10_filter_10 : decode cX10_filter 10 = .ok (.aload_n 0, 1) := by decide +kernel
theorem dX10_filter_11 : decode cX10_filter 11 = .ok (.getfield 33, 3) := by decide +kernel
theorem dX10_filter_14 : decode cX10_filter 14 = .ok (.invokevirtual 120, 3) := by decide +kernel
theorem dX10_filter_17 : decode cX10_filter 17 = .ok (.iconst 4, 1) := by decide +kernel
theorem dX10_filter_18 : decode cX10_filter 18 = .ok (.if_icmp .lt 6, 3) := by decide +kernel
theorem dX10_filter_21 : decode cX10_filter 21 = .ok (.bipush (-2), 2) := by decide +kernel
theorem dX10_filter_23 : decode cX10_filter 23 = .ok (.ireturn, 1) := by decide +kernel
theorem dX10_filter_24 : decode cX10_filter 24 = .ok (.aload_n 0, 1) := by decide +kernel
theorem dX10_filter_25 : decode cX10_filter 25 = .ok (.getfield 33, 3) := by decide +kernel
theorem dX10_filter_28 : decode cX10_filter 28 = .ok (.iload_n 1, 1) := by decide +kernel
theorem dX10_filter_29 : decode cX10_filter 29 = .ok (.iload_n 2, 1) := by decide +kernel
theorem dX10_filter_30 : decode cX10_filter 30 = .ok (.invokevirtual 123, 3) := by decide +kernel
theorem dX10_filter_33 : decode cX10_filter 33 = .ok (.aload_n 0, 1) := by decide +kernel
theorem dX10_filter_34 : decode cX10_filter 34 = .ok (.invokevirtual 127, 3) := by decide +kernel
theorem dX10_filter_37 : decode cX10_filter 37 = .ok (.aload_n 0, 1) := by decide +kernel
theorem dX10_filter_38 : decode cX10_filter 38 = .ok (.getfield 33, 3) := by decide +kernel
theorem dX10_filter_41 : decode cX10_filter 41 = .ok (.invokevirtual 120, 3) := by decide +kernel
theorem dX10_filter_44 : decode cX10_filter 44 = .ok (.iconst 1, 1) := by decide +kernel
theorem dX10_filter_45 : decode cX10_filter 45 = .ok (.isub, 1) := by decide +kernel
theorem dX10_filter_46 : decode cX10_filter 46 = .ok (.ireturn, 1) := by decide +kernel
theorem dX10_packer_0 : decode cX10_packer 0 = .ok (.iload_n 1, 1) := by decide +kernel
theorem dX10_packer_1 : decode cX10_packer 1 = .ok (.iconst 1, 1) := by decide +kernel
theorem dX10_packer_2 : decode cX10_packer 2 = .ok (.if_icmp .lt 8, 3) := by decide +kernel
theorem dX10_packer_5 : decode cX10_packer 5 = .ok (.iload_n 1, 1) := by decide +kernel
theorem dX10_packer_6 : decode cX10_packer 6 = .ok (.iconst 4, 1) := by decide +kernel
theorem dX10_packer_7 : decode cX10_packer 7 = .ok (.if_icmp .le 5, 3) := by decide +kernel
theorem dX10_packer_10 : decode cX10_packer 10 = .ok (.iconst (-1), 1) := by decide +kernel
theorem dX10_packer_11 : decode cX10_packer 11 = .ok (.ireturn, 1) := by decide +kernel
theorem dX10_packer_12 : decode cX10_packer 12 = .ok (.aload_n 0, 1) := by decide +kernel
theorem dX10_packer_13 : decode cX10_packer 13 = .ok (.getfield 33, 3) := by decide +kernel
theorem dX10_packer_16 : decode cX10_packer 16 = .ok (.iload_n 1, 1) := by decide +kernel
theorem dX10_packer_17 : decode cX10_packer 17 = .ok (.invokevirtual 130, 3) := by decide +kernel
theorem dX10_packer_20 : decode cX10_packer 20 = .ok (.ifCond .eq 6, 3) := by decide +kernel
theorem dX10_packer_23 : decode cX10_packer 23 = .ok (.bipush (-3), 2) := by decide +kernel
theorem dX10_packer_25 : decode cX10_packer 25 = .ok (.ireturn, 1) := by decide +kernel
theorem dX10_packer_26 : decode cX10_packer 26 = .ok (.aload_n 0, 1) := by decide +kernel
theorem dX10_packer_27 : decode cX10_packer 27 = .ok (.getfield 33, 3) := by decide +kernel
theorem dX10_packer_30 : decode cX10_packer 30 = .ok (.iload_n 1, 1) := by decide +kernel
theorem dX10_packer_31 : decode cX10_packer 31 = .ok (.invokevirtual 133, 3) := by decide +kernel
theorem dX10_packer_34 : decode cX10_packer 34 = .ok (.aload_n 0, 1) := by decide +kernel
theorem dX10_packer_35 : decode cX10_packer 35 = .ok (.invokevirtual 127, 3) := by decide +kernel
theorem dX10_packer_38 : decode cX10_packer 38 = .ok (.aload_n 0, 1) := by decide +kernel
theorem dX10_packer_39 : decode cX10_packer 39 = .ok (.getfield 33, 3) := by decide +kernel
theorem dX10_packer_42 : decode cX10_packer 42 = .ok (.invokevirtual 136, 3) := by decide +kernel
theorem dX10_packer_45 : decode cX10_packer 45 = .ok (.iconst 1, 1) := by decide +kernel
theorem dX10_packer_46 : decode cX10_packer 46 = .ok (.isub, 1) := by decide +kernel
theorem dX10_packer_47 : decode cX10_packer 47 = .ok (.ireturn, 1) := by decide +kernel
theorem dX10_forget_0 : decode cX10_forget 0 = .ok (.aload_n 0, 1) := by decide +kernel
theorem dX10_forget_1 : decode cX10_forget 1 = .ok (.getfield 33, 3) := by decide +kernel
theorem dX10_forget_4 : decode cX10_forget 4 = .ok (.invokevirtual 139, 3) := by decide +kernel
theorem dX10_forget_7 : decode cX10_forget 7 = .ok (.istore_n 1, 1) := by decide +kernel
theorem dX10_forget_8 : decode cX10_forget 8 = .ok (.aload_n 0, 1) := by decide +kernel
theorem dX10_forget_9 : decode cX10_forget 9 = .ok (.getfield 33, 3) := by decide +kernel
theorem dX10_forget_12 : decode cX10_forget 12 = .ok (.invokevirtual 142, 3) := by decide +kernel
theorem dX10_forget_15 : decode cX10_forget 15 = .ok (.aload_n 0, 1) := by decide +kernel
theorem dX10_forget_16 : decode cX10_forget 16 = .ok (.invokevirtual 127, 3) := by decide +kernel
theorem dX10_forget_19 : decode cX10_forget 19 = .ok (.iload_n 1, 1) := by decide +kernel
theorem dX10_forget_20 : decode cX10_forget 20 = .ok (.ireturn, 1) := by decide +kernel
theorem dX10_chains_0 : decode cX10_chains 0 = .ok (.aload_n 0, 1) := by decide +kernel
theorem dX10_chains_1 : decode cX10_chains 1 = .ok (.getfield 33, 3) := by decide +kernel
theorem dX10_chains_4 : decode cX10_chains 4 = .ok (.invokevirtual 139, 3) := by decide +kernel
theorem dX10_chains_7 : decode cX10_chains 7 = .ok (.ireturn, 1) := by decide +kernel
theorem dX10_chain_0 : decode cX10_chain 0 = .ok (.aload_n 0, 1) := by decide +kernel
theorem dX10_chain_1 : decode cX10_chain 1 = .ok (.getfield 33, 3) := by decide +kernel
theorem dX10_chain_4 : decode cX10_chain 4 = .ok (.iload_n 1, 1) := by decide +kernel
theorem dX10_chain_5 : decode cX10_chain 5 = .ok (.invokevirtual 145, 3) := by decide +kernel
theorem dX10_chain_8 : decode cX10_chain 8 = .ok (.ifCond .ne 5, 3) := by decide +kernel
theorem dX10_chain_11 : decode cX10_chain 11 = .ok (.iconst (-1), 1) := by decide +kernel
theorem dX10_chain_12 : decode cX10_chain 12 = .ok (.ireturn, 1) := by decide +kernel
theorem dX10_chain_13 : decode cX10_chain 13 = .ok (.iload_n 2, 1) := by decide +kernel
theorem dX10_chain_14 : decode cX10_chain 14 = .ok (.tableswitch 116 0 5 #[38, 38, 48, 57, 66, 75], 38) := by decide +kernel
theorem dX10_chain_52 : decode cX10_chain 52 = .ok (.aload_n 0, 1) := by decide +kernel
theorem dX10_chain_53 : decode cX10_chain 53 = .ok (.getfield 33, 3) := by decide +kernel
theorem dX10_chain_56 : decode cX10_chain 56 = .ok (.iload_n 1, 1) := by decide +kernel
theorem dX10_chain_57 : decode cX10_chain 57 = .ok (.iload_n 2, 1) := by decide +kernel
theorem dX10_chain_58 : decode cX10_chain 58 = .ok (.invokevirtual 146, 3) := by decide +kernel
theorem dX10_chain_61 : decode cX10_chain 61 = .ok (.ireturn, 1) := by decide +kernel
theorem dX10_chain_62 : decode cX10_chain 62 = .ok (.aload_n 0, 1) := by decide +kernel
theorem dX10_chain_63 : decode cX10_chain 63 = .ok (.getfield 33, 3) := by decide +kernel
theorem dX10_chain_66 : decode cX10_chain 66 = .ok (.iload_n 1, 1) := by decide +kernel
theorem dX10_chain_67 : decode cX10_chain 67 = .ok (.invokevirtual 150, 3) := by decide +kernel
theorem dX10_chain_70 : decode cX10_chain 70 = .ok (.ireturn, 1) := by decide +kernel
theorem dX10_chain_71 : decode cX10_chain 71 = .ok (.aload_n 0, 1) := by decide +kernel
theorem dX10_chain_72 : decode cX10_chain 72 = .ok (.getfield 33, 3) := by decide +kernel
theorem dX10_chain_75 : decode cX10_chain 75 = .ok (.iload_n 1, 1) := by decide +kernel
theorem dX10_chain_76 : decode cX10_chain 76 = .ok (.invokevirtual 153, 3) := by decide +kernel
theorem dX10_chain_79 : decode cX10_chain 79 = .ok (.ireturn, 1) := by decide +kernel
theorem dX10_chain_80 : decode cX10_chain 80 = .ok (.aload_n 0, 1) := by decide +kernel
theorem dX10_chain_81 : decode cX10_chain 81 = .ok (.getfield 33, 3) := by decide +kernel
theorem dX10_chain_84 : decode cX10_chain 84 = .ok (.iload_n 1, 1) := by decide +kernel
theorem dX10_chain_85 : decode cX10_chain 85 = .ok (.invokevirtual 156, 3) := by decide +kernel
theorem dX10_chain_88 : decode cX10_chain 88 = .ok (.ireturn, 1) := by decide +kernel
theorem dX10_chain_89 : decode cX10_chain 89 = .ok (.aload_n 0, 1) := by decide +kernel
theorem dX10_chain_90 : decode cX10_chain 90 = .ok (.iload_n 1, 1) := by decide +kernel
theorem dX10_chain_91 : decode cX10_chain 91 = .ok (.aload_n 0, 1) := by decide +kernel
theorem dX10_chain_92 : decode cX10_chain 92 = .ok (.getfield 21, 3) := by decide +kernel
theorem dX10_chain_95 : decode cX10_chain 95 = .ok (.invokevirtual 159, 3) := by decide +kernel
theorem dX10_chain_98 : decode cX10_chain 98 = .ok (.aload_n 0, 1) := by decide +kernel
theorem dX10_chain_99 : decode cX10_chain 99 = .ok (.getfield 47, 3) := by decide +kernel
theorem dX10_chain_102 : decode cX10_chain 102 = .ok (.aload_n 0, 1) := by decide +kernel
theorem dX10_chain_103 : decode cX10_chain 103 = .ok (.getfield 33, 3) := by decide +kernel
theorem dX10_chain_106 : decode cX10_chain 106 = .ok (.iload_n 1, 1) := by decide +kernel
theorem dX10_chain_107 : decode cX10_chain 107 = .ok (.invokevirtual 150, 3) := by decide +kernel
theorem dX10_chain_110 : decode cX10_chain 110 = .ok (.aload_n 0, 1) := by decide +kernel
theorem dX10_chain_111 : decode cX10_chain 111 = .ok (.iload_n 1, 1) := by decide +kernel
theorem dX10_chain_112 : decode cX10_chain 112 = .ok (.invokevirtual 163, 3) := by decide +kernel
theorem dX10_chain_115 : decode cX10_chain 115 = .ok (.aload_n 0, 1) := by decide +kernel
theorem dX10_chain_116 : decode cX10_chain 116 = .ok (.getfield 21, 3) := by decide +kernel
theorem dX10_chain_119 : decode cX10_chain 119 = .ok (.invokevirtual 166, 3) := by decide +kernel
theorem dX10_chain_122 : decode cX10_chain 122 = .ok (.aload_n 0, 1) := by decide +kernel
theorem dX10_chain_123 : decode cX10_chain 123 = .ok (.getfield 21, 3) := by decide +kernel
theorem dX10_chain_126 : decode cX10_chain 126 = .ok (.invokevirtual 86, 3) := by decide +kernel
theorem dX10_chain_129 : decode cX10_chain 129 = .ok (.ireturn, 1) := by decide +kernel
theorem dX10_chain_130 : decode cX10_chain 130 = .ok (.iconst (-1), 1) := by decide +kernel
theorem dX10_chain_131 : decode cX10_chain 131 = .ok (.ireturn, 1) := by decide +kernel
theorem dX10_choose_0 : decode cX10_choose 0 = .ok (.iload_n 1, 1) := by decide +kernel
theorem dX10_choose_1 : decode cX10_choose 1 = .ok (.ifCond .lt 7, 3) := by decide +kernel
theorem dX10_choose_4 : decode cX10_choose 4 = .ok (.iload_n 2, 1) := by decide +kernel
theorem dX10_choose_5 : decode cX10_choose 5 = .ok (.ifCond .ge 5, 3) := by decide +kernel
theorem dX10_choose_8 : decode cX10_choose 8 = .ok (.iconst (-1), 1) := by decide +kernel
theorem dX10_choose_9 : decode cX10_choose 9 = .ok (.ireturn, 1) := by decide +kernel
theorem dX10_choose_10 : decode cX10_choose 10 = .ok (.aload_n 0, 1) := by decide +kernel
theorem dX10_choose_11 : decode cX10_choose 11 = .ok (.getfield 61, 3) := by decide +kernel
theorem dX10_choose_14 : decode cX10_choose 14 = .ok (.aload_n 0, 1) := by decide +kernel
theorem dX10_choose_15 : decode cX10_choose 15 = .ok (.getfield 14, 3) := by decide +kernel
theorem dX10_choose_18 : decode cX10_choose 18 = .ok (.invokevirtual 170, 3) := by decide +kernel
theorem dX10_choose_21 : decode cX10_choose 21 = .ok (.istore_n 3, 1) := by decide +kernel
theorem dX10_choose_22 : decode cX10_choose 22 = .ok (.aload_n 0, 1) := by decide +kernel
theorem dX10_choose_23 : decode cX10_choose 23 = .ok (.getfield 65, 3) := by decide +kernel
theorem dX10_choose_26 : decode cX10_choose 26 = .ok (.iconst 0, 1) := by decide +kernel
theorem dX10_choose_27 : decode cX10_choose 27 = .ok (.invokestatic 80, 3) := by decide +kernel
theorem dX10_choose_30 : decode cX10_choose 30 = .ok (.aload_n 0, 1) := by decide +kernel
theorem dX10_choose_31 : decode cX10_choose 31 = .ok (.iconst 1, 1) := by decide +kernel
theorem dX10_choose_32 : decode cX10_choose 32 = .ok (.putfield 72, 3) := by decide +kernel
theorem dX10_choose_35 : decode cX10_choose 35 = .ok (.aload_n 0, 1) := by decide +kernel
theorem dX10_choose_36 : decode cX10_choose 36 = .ok (.getfield 65, 3) := by decide +kernel
theorem dX10_choose_39 : decode cX10_choose 39 = .ok (.iconst 3, 1) := by decide +kernel
theorem dX10_choose_40 : decode cX10_choose 40 = .ok (.aload_n 0, 1) := by decide +kernel
theorem dX10_choose_41 : decode cX10_choose 41 = .ok (.getfield 14, 3) := by decide +kernel
theorem dX10_choose_44 : decode cX10_choose 44 = .ok (.invokevirtual 86, 3) := by decide +kernel
theorem dX10_choose_47 : decode cX10_choose 47 = .ok (.iconst 4, 1) := by decide +kernel
theorem dX10_choose_48 : decode cX10_choose 48 = .ok (.iadd, 1) := by decide +kernel
theorem dX10_choose_49 : decode cX10_choose 49 = .ok (.iastore, 1) := by decide +kernel
theorem dX10_choose_50 : decode cX10_choose 50 = .ok (.iload_n 3, 1) := by decide +kernel
theorem dX10_choose_51 : decode cX10_choose 51 = .ok (.ifCond .eq 13, 3) := by decide +kernel
theorem dX10_choose_54 : decode cX10_choose 54 = .ok (.aload_n 0, 1) := by decide +kernel
theorem dX10_choose_55 : decode cX10_choose 55 = .ok (.getfield 65, 3) := by decide +kernel
theorem dX10_choose_58 : decode cX10_choose 58 = .ok (.iconst 5, 1) := by decide +kernel
theorem dX10_choose_59 : decode cX10_choose 59 = .ok (.iconst 1, 1) := by decide +kernel
theorem dX10_choose_60 : decode cX10_choose 60 = .ok (.iastore, 1) := by decide +kernel
theorem dX10_choose_61 : decode cX10_choose 61 = .ok (.goto 9, 3) := by decide +kernel
theorem dX10_choose_64 : decode cX10_choose 64 = .ok (.aload_n 0, 1) := by decide +kernel
theorem dX10_choose_65 : decode cX10_choose 65 = .ok (.iload_n 1, 1) := by decide +kernel
theorem dX10_choose_66 : decode cX10_choose 66 = .ok (.iload_n 2, 1) := by decide +kernel
theorem dX10_choose_67 : decode cX10_choose 67 = .ok (.invokevirtual 174, 3) := by decide +kernel
theorem dX10_choose_70 : decode cX10_choose 70 = .ok (.aload_n 0, 1) := by decide +kernel
theorem dX10_choose_71 : decode cX10_choose 71 = .ok (.getfield 65, 3) := by decide +kernel
theorem dX10_choose_74 : decode cX10_choose 74 = .ok (.iconst 2, 1) := by decide +kernel
theorem dX10_choose_75 : decode cX10_choose 75 = .ok (.iaload, 1) := by decide +kernel
theorem dX10_choose_76 : decode cX10_choose 76 = .ok (.ireturn, 1) := by decide +kernel
theorem dX10_told_0 : decode cX10_told 0 = .ok (.iload_n 1, 1) := by decide +kernel
theorem dX10_told_1 : decode cX10_told 1 = .ok (.ifCond .lt 12, 3) := by decide +kernel
theorem dX10_told_4 : decode cX10_told 4 = .ok (.iload_n 1, 1) := by decide +kernel
theorem dX10_told_5 : decode cX10_told 5 = .ok (.aload_n 0, 1) := by decide +kernel
theorem dX10_told_6 : decode cX10_told 6 = .ok (.getfield 65, 3) := by decide +kernel
theorem dX10_told_9 : decode cX10_told 9 = .ok (.arraylength, 1) := by decide +kernel
theorem dX10_told_10 : decode cX10_told 10 = .ok (.if_icmp .lt 5, 3) := by decide +kernel
theorem dX10_told_13 : decode cX10_told 13 = .ok (.iconst (-1), 1) := by decide +kernel
theorem dX10_told_14 : decode cX10_told 14 = .ok (.ireturn, 1) := by decide +kernel
theorem dX10_told_15 : decode cX10_told 15 = .ok (.aload_n 0, 1) := by decide +kernel
theorem dX10_told_16 : decode cX10_told 16 = .ok (.getfield 72, 3) := by decide +kernel
theorem dX10_told_19 : decode cX10_told 19 = .ok (.ifCond .eq 12, 3) := by decide +kernel
theorem dX10_told_22 : decode cX10_told 22 = .ok (.aload_n 0, 1) := by decide +kernel
theorem dX10_told_23 : decode cX10_told 23 = .ok (.getfield 65, 3) := by decide +kernel
theorem dX10_told_26 : decode cX10_told 26 = .ok (.iload_n 1, 1) := by decide +kernel
theorem dX10_told_27 : decode cX10_told 27 = .ok (.iaload, 1) := by decide +kernel
theorem dX10_told_28 : decode cX10_told 28 = .ok (.goto 5, 3) := by decide +kernel
theorem dX10_told_31 : decode cX10_told 31 = .ok (.bipush (-3), 2) := by decide +kernel
theorem dX10_told_33 : decode cX10_told 33 = .ok (.ireturn, 1) := by decide +kernel
theorem dX10_learn_0 : decode cX10_learn 0 = .ok (.aload_n 0, 1) := by decide +kernel
theorem dX10_learn_1 : decode cX10_learn 1 = .ok (.getfield 72, 3) := by decide +kernel
theorem dX10_learn_4 : decode cX10_learn 4 = .ok (.ifCond .ne 6, 3) := by decide +kernel
theorem dX10_learn_7 : decode cX10_learn 7 = .ok (.bipush (-3), 2) := by decide +kernel
theorem dX10_learn_9 : decode cX10_learn 9 = .ok (.ireturn, 1) := by decide +kernel
theorem dX10_learn_10 : decode cX10_learn 10 = .ok (.aload_n 0, 1) := by decide +kernel
theorem dX10_learn_11 : decode cX10_learn 11 = .ok (.getfield 61, 3) := by decide +kernel
theorem dX10_learn_14 : decode cX10_learn 14 = .ok (.aload_n 0, 1) := by decide +kernel
theorem dX10_learn_15 : decode cX10_learn 15 = .ok (.getfield 14, 3) := by decide +kernel
theorem dX10_learn_18 : decode cX10_learn 18 = .ok (.invokevirtual 177, 3) := by decide +kernel
theorem dX10_learn_21 : decode cX10_learn 21 = .ok (.istore_n 1, 1) := by decide +kernel
theorem dX10_learn_22 : decode cX10_learn 22 = .ok (.iload_n 1, 1) := by decide +kernel
theorem dX10_learn_23 : decode cX10_learn 23 = .ok (.ifCond .lt 24, 3) := by decide +kernel
theorem dX10_learn_26 : decode cX10_learn 26 = .ok (.iload_n 1, 1) := by decide +kernel
theorem dX10_learn_27 : decode cX10_learn 27 = .ok (.aload_n 0, 1) := by decide +kernel
theorem dX10_learn_28 : decode cX10_learn 28 = .ok (.getfield 69, 3) := by decide +kernel
theorem dX10_learn_31 : decode cX10_learn 31 = .ok (.arraylength, 1) := by decide +kernel
theorem dX10_learn_32 : decode cX10_learn 32 = .ok (.if_icmp .ge 15, 3) := by decide +kernel
theorem dX10_learn_35 : decode cX10_learn 35 = .ok (.aload_n 0, 1) := by decide +kernel
theorem dX10_learn_36 : decode cX10_learn 36 = .ok (.getfield 69, 3) := by decide +kernel
theorem dX10_learn_39 : decode cX10_learn 39 = .ok (.iload_n 1, 1) := by decide +kernel
theorem dX10_learn_40 : decode cX10_learn 40 = .ok (.aload_n 0, 1) := by decide +kernel
theorem dX10_learn_41 : decode cX10_learn 41 = .ok (.getfield 65, 3) := by decide +kernel
theorem dX10_learn_44 : decode cX10_learn 44 = .ok (.iconst 2, 1) := by decide +kernel
theorem dX10_learn_45 : decode cX10_learn 45 = .ok (.iaload, 1) := by decide +kernel
theorem dX10_learn_46 : decode cX10_learn 46 = .ok (.iastore, 1) := by decide +kernel
theorem dX10_learn_47 : decode cX10_learn 47 = .ok (.iload_n 1, 1) := by decide +kernel
theorem dX10_learn_48 : decode cX10_learn 48 = .ok (.ireturn, 1) := by decide +kernel
theorem dX10_feature_0 : decode cX10_feature 0 = .ok (.aload_n 0, 1) := by decide +kernel
theorem dX10_feature_1 : decode cX10_feature 1 = .ok (.getfield 61, 3) := by decide +kernel
theorem dX10_feature_4 : decode cX10_feature 4 = .ok (.aload_n 0, 1) := by decide +kernel
theorem dX10_feature_5 : decode cX10_feature 5 = .ok (.getfield 14, 3) := by decide +kernel
theorem dX10_feature_8 : decode cX10_feature 8 = .ok (.invokevirtual 177, 3) := by decide +kernel
theorem dX10_feature_11 : decode cX10_feature 11 = .ok (.ireturn, 1) := by decide +kernel
theorem dX10_learned_0 : decode cX10_learned 0 = .ok (.iload_n 1, 1) := by decide +kernel
theorem dX10_learned_1 : decode cX10_learned 1 = .ok (.ifCond .lt 12, 3) := by decide +kernel
theorem dX10_learned_4 : decode cX10_learned 4 = .ok (.iload_n 1, 1) := by decide +kernel
theorem dX10_learned_5 : decode cX10_learned 5 = .ok (.aload_n 0, 1) := by decide +kernel
theorem dX10_learned_6 : decode cX10_learned 6 = .ok (.getfield 69, 3) := by decide +kernel
theorem dX10_learned_9 : decode cX10_learned 9 = .ok (.arraylength, 1) := by decide +kernel
theorem dX10_learned_10 : decode cX10_learned 10 = .ok (.if_icmp .lt 5, 3) := by decide +kernel
theorem dX10_learned_13 : decode cX10_learned 13 = .ok (.iconst (-1), 1) := by decide +kernel
theorem dX10_learned_14 : decode cX10_learned 14 = .ok (.ireturn, 1) := by decide +kernel
theorem dX10_learned_15 : decode cX10_learned 15 = .ok (.aload_n 0, 1) := by decide +kernel
theorem dX10_learned_16 : decode cX10_learned 16 = .ok (.getfield 69, 3) := by decide +kernel
theorem dX10_learned_19 : decode cX10_learned 19 = .ok (.iload_n 1, 1) := by decide +kernel
theorem dX10_learned_20 : decode cX10_learned 20 = .ok (.iaload, 1) := by decide +kernel
theorem dX10_learned_21 : decode cX10_learned 21 = .ok (.ireturn, 1) := by decide +kernel
theorem dX10_share_0 : decode cX10_share 0 = .ok (.iload_n 2, 1) := by decide +kernel
theorem dX10_share_1 : decode cX10_share 1 = .ok (.ifCond .ne 13, 3) := by decide +kernel
theorem dX10_share_4 : decode cX10_share 4 = .ok (.new 181, 3) := by decide +kernel
theorem dX10_share_7 : decode cX10_share 7 = .ok (.dup, 1) := by decide +kernel
theorem dX10_share_8 : decode cX10_share 8 = .ok (.ldc 183, 2) := by decide +kernel
theorem dX10_share_10 : decode cX10_share 10 = .ok (.invokespecial 185, 3) := by decide +kernel
theorem dX10_share_13 : decode cX10_share 13 = .ok (.athrow, 1) := by decide +kernel
theorem dX10_share_14 : decode cX10_share 14 = .ok (.ldc2_w 188, 3) := by decide +kernel
theorem dX10_share_17 : decode cX10_share 17 = .ok (.iload_n 1, 1) := by decide +kernel
theorem dX10_share_18 : decode cX10_share 18 = .ok (.i2l, 1) := by decide +kernel
theorem dX10_share_19 : decode cX10_share 19 = .ok (.lmul, 1) := by decide +kernel
theorem dX10_share_20 : decode cX10_share 20 = .ok (.iload_n 2, 1) := by decide +kernel
theorem dX10_share_21 : decode cX10_share 21 = .ok (.i2l, 1) := by decide +kernel
theorem dX10_share_22 : decode cX10_share 22 = .ok (.ldiv, 1) := by decide +kernel
theorem dX10_share_23 : decode cX10_share 23 = .ok (.lreturn, 1) := by decide +kernel
theorem dX10_pack_0 : decode cX10_pack 0 = .ok (.aload_n 0, 1) := by decide +kernel
theorem dX10_pack_1 : decode cX10_pack 1 = .ok (.getfield 33, 3) := by decide +kernel
theorem dX10_pack_4 : decode cX10_pack 4 = .ok (.iload_n 1, 1) := by decide +kernel
theorem dX10_pack_5 : decode cX10_pack 5 = .ok (.invokevirtual 145, 3) := by decide +kernel
theorem dX10_pack_8 : decode cX10_pack 8 = .ok (.ifCond .ne 5, 3) := by decide +kernel
theorem dX10_pack_11 : decode cX10_pack 11 = .ok (.iconst (-1), 1) := by decide +kernel
theorem dX10_pack_12 : decode cX10_pack 12 = .ok (.ireturn, 1) := by decide +kernel
theorem dX10_pack_13 : decode cX10_pack 13 = .ok (.aload_n 0, 1) := by decide +kernel
theorem dX10_pack_14 : decode cX10_pack 14 = .ok (.iload_n 1, 1) := by decide +kernel
theorem dX10_pack_15 : decode cX10_pack 15 = .ok (.aload_n 0, 1) := by decide +kernel
theorem dX10_pack_16 : decode cX10_pack 16 = .ok (.getfield 18, 3) := by decide +kernel
theorem dX10_pack_19 : decode cX10_pack 19 = .ok (.invokevirtual 159, 3) := by decide +kernel
theorem dX10_pack_22 : decode cX10_pack 22 = .ok (.aload_n 0, 1) := by decide +kernel
theorem dX10_pack_23 : decode cX10_pack 23 = .ok (.getfield 47, 3) := by decide +kernel
theorem dX10_pack_26 : decode cX10_pack 26 = .ok (.aload_n 0, 1) := by decide +kernel
theorem dX10_pack_27 : decode cX10_pack 27 = .ok (.getfield 33, 3) := by decide +kernel
theorem dX10_pack_30 : decode cX10_pack 30 = .ok (.iload_n 1, 1) := by decide +kernel
theorem dX10_pack_31 : decode cX10_pack 31 = .ok (.invokevirtual 150, 3) := by decide +kernel
theorem dX10_pack_34 : decode cX10_pack 34 = .ok (.aload_n 0, 1) := by decide +kernel
theorem dX10_pack_35 : decode cX10_pack 35 = .ok (.iload_n 1, 1) := by decide +kernel
theorem dX10_pack_36 : decode cX10_pack 36 = .ok (.invokevirtual 163, 3) := by decide +kernel
theorem dX10_pack_39 : decode cX10_pack 39 = .ok (.aload_n 0, 1) := by decide +kernel
theorem dX10_pack_40 : decode cX10_pack 40 = .ok (.getfield 18, 3) := by decide +kernel
theorem dX10_pack_43 : decode cX10_pack 43 = .ok (.invokevirtual 166, 3) := by decide +kernel
theorem dX10_pack_46 : decode cX10_pack 46 = .ok (.aload_n 0, 1) := by decide +kernel
theorem dX10_pack_47 : decode cX10_pack 47 = .ok (.getfield 18, 3) := by decide +kernel
theorem dX10_pack_50 : decode cX10_pack 50 = .ok (.invokevirtual 86, 3) := by decide +kernel
theorem dX10_pack_53 : decode cX10_pack 53 = .ok (.ireturn, 1) := by decide +kernel
theorem dX10_alter_0 : decode cX10_alter 0 = .ok (.aload_n 0, 1) := by decide +kernel
theorem dX10_alter_1 : decode cX10_alter 1 = .ok (.getfield 18, 3) := by decide +kernel
theorem dX10_alter_4 : decode cX10_alter 4 = .ok (.iload_n 1, 1) := by decide +kernel
theorem dX10_alter_5 : decode cX10_alter 5 = .ok (.invokevirtual 109, 3) := by decide +kernel
theorem dX10_alter_8 : decode cX10_alter 8 = .ok (.ifCond .eq 10, 3) := by decide +kernel
theorem dX10_alter_11 : decode cX10_alter 11 = .ok (.iload_n 2, 1) := by decide +kernel
theorem dX10_alter_12 : decode cX10_alter 12 = .ok (.invokestatic 93, 3) := by decide +kernel
theorem dX10_alter_15 : decode cX10_alter 15 = .ok (.ifCond .ne 5, 3) := by decide +kernel
theorem dX10_alter_18 : decode cX10_alter 18 = .ok (.iconst (-1), 1) := by decide +kernel
theorem dX10_alter_19 : decode cX10_alter 19 = .ok (.ireturn, 1) := by decide +kernel
theorem dX10_alter_20 : decode cX10_alter 20 = .ok (.aload_n 0, 1) := by decide +kernel
theorem dX10_alter_21 : decode cX10_alter 21 = .ok (.getfield 18, 3) := by decide +kernel
theorem dX10_alter_24 : decode cX10_alter 24 = .ok (.iload_n 1, 1) := by decide +kernel
theorem dX10_alter_25 : decode cX10_alter 25 = .ok (.invokevirtual 112, 3) := by decide +kernel
theorem dX10_alter_28 : decode cX10_alter 28 = .ok (.istore_n 3, 1) := by decide +kernel
theorem dX10_alter_29 : decode cX10_alter 29 = .ok (.aload_n 0, 1) := by decide +kernel
theorem dX10_alter_30 : decode cX10_alter 30 = .ok (.getfield 18, 3) := by decide +kernel
theorem dX10_alter_33 : decode cX10_alter 33 = .ok (.iload_n 1, 1) := by decide +kernel
theorem dX10_alter_34 : decode cX10_alter 34 = .ok (.iload_n 2, 1) := by decide +kernel
theorem dX10_alter_35 : decode cX10_alter 35 = .ok (.invokevirtual 190, 3) := by decide +kernel
theorem dX10_alter_38 : decode cX10_alter 38 = .ok (.iload_n 3, 1) := by decide +kernel
theorem dX10_alter_39 : decode cX10_alter 39 = .ok (.ireturn, 1) := by decide +kernel
theorem dX10_cut_0 : decode cX10_cut 0 = .ok (.iload_n 1, 1) := by decide +kernel
theorem dX10_cut_1 : decode cX10_cut 1 = .ok (.ifCond .lt 14, 3) := by decide +kernel
theorem dX10_cut_4 : decode cX10_cut 4 = .ok (.iload_n 1, 1) := by decide +kernel
theorem dX10_cut_5 : decode cX10_cut 5 = .ok (.aload_n 0, 1) := by decide +kernel
theorem dX10_cut_6 : decode cX10_cut 6 = .ok (.getfield 18, 3) := by decide +kernel
theorem dX10_cut_9 : decode cX10_cut 9 = .ok (.invokevirtual 86, 3) := by decide +kernel
theorem dX10_cut_12 : decode cX10_cut 12 = .ok (.if_icmp .le 5, 3) := by decide +kernel
theorem dX10_cut_15 : decode cX10_cut 15 = .ok (.iconst (-1), 1) := by decide +kernel
theorem dX10_cut_16 : decode cX10_cut 16 = .ok (.ireturn, 1) := by decide +kernel
theorem dX10_cut_17 : decode cX10_cut 17 = .ok (.aload_n 0, 1) := by decide +kernel
theorem dX10_cut_18 : decode cX10_cut 18 = .ok (.getfield 18, 3) := by decide +kernel
theorem dX10_cut_21 : decode cX10_cut 21 = .ok (.invokevirtual 86, 3) := by decide +kernel
theorem dX10_cut_24 : decode cX10_cut 24 = .ok (.iload_n 1, 1) := by decide +kernel
theorem dX10_cut_25 : decode cX10_cut 25 = .ok (.isub, 1) := by decide +kernel
theorem dX10_cut_26 : decode cX10_cut 26 = .ok (.istore_n 2, 1) := by decide +kernel
theorem dX10_cut_27 : decode cX10_cut 27 = .ok (.aload_n 0, 1) := by decide +kernel
theorem dX10_cut_28 : decode cX10_cut 28 = .ok (.getfield 18, 3) := by decide +kernel
theorem dX10_cut_31 : decode cX10_cut 31 = .ok (.iload_n 1, 1) := by decide +kernel
theorem dX10_cut_32 : decode cX10_cut 32 = .ok (.invokevirtual 193, 3) := by decide +kernel
theorem dX10_cut_35 : decode cX10_cut 35 = .ok (.iload_n 2, 1) := by decide +kernel
theorem dX10_cut_36 : decode cX10_cut 36 = .ok (.ireturn, 1) := by decide +kernel
theorem dX10_unpack_0 : decode cX10_unpack 0 = .ok (.aload_n 0, 1) := by decide +kernel
theorem dX10_unpack_1 : decode cX10_unpack 1 = .ok (.getfield 54, 3) := by decide +kernel
theorem dX10_unpack_4 : decode cX10_unpack 4 = .ok (.aload_n 0, 1) := by decide +kernel
theorem dX10_unpack_5 : decode cX10_unpack 5 = .ok (.getfield 18, 3) := by decide +kernel
theorem dX10_unpack_8 : decode cX10_unpack 8 = .ok (.invokevirtual 196, 3) := by decide +kernel
theorem dX10_unpack_11 : decode cX10_unpack 11 = .ok (.aload_n 0, 1) := by decide +kernel
theorem dX10_unpack_12 : decode cX10_unpack 12 = .ok (.getfield 54, 3) := by decide +kernel
theorem dX10_unpack_15 : decode cX10_unpack 15 = .ok (.invokevirtual 200, 3) := by decide +kernel
theorem dX10_unpack_18 : decode cX10_unpack 18 = .ok (.aload_n 0, 1) := by decide +kernel
theorem dX10_unpack_19 : decode cX10_unpack 19 = .ok (.getfield 54, 3) := by decide +kernel
theorem dX10_unpack_22 : decode cX10_unpack 22 = .ok (.aload_n 0, 1) := by decide +kernel
theorem dX10_unpack_23 : decode cX10_unpack 23 = .ok (.getfield 14, 3) := by decide +kernel
theorem dX10_unpack_26 : decode cX10_unpack 26 = .ok (.invokevirtual 203, 3) := by decide +kernel
theorem dX10_unpack_29 : decode cX10_unpack 29 = .ok (.istore_n 1, 1) := by decide +kernel
theorem dX10_unpack_30 : decode cX10_unpack 30 = .ok (.aload_n 0, 1) := by decide +kernel
theorem dX10_unpack_31 : decode cX10_unpack 31 = .ok (.iload_n 1, 1) := by decide +kernel
theorem dX10_unpack_32 : decode cX10_unpack 32 = .ok (.ifCond .ne 8, 3) := by decide +kernel
theorem dX10_unpack_35 : decode cX10_unpack 35 = .ok (.bipush (-3), 2) := by decide +kernel
theorem dX10_unpack_37 : decode cX10_unpack 37 = .ok (.goto 10, 3) := by decide +kernel
theorem dX10_unpack_40 : decode cX10_unpack 40 = .ok (.aload_n 0, 1) := by decide +kernel
theorem dX10_unpack_41 : decode cX10_unpack 41 = .ok (.getfield 54, 3) := by decide +kernel
theorem dX10_unpack_44 : decode cX10_unpack 44 = .ok (.invokevirtual 206, 3) := by decide +kernel
theorem dX10_unpack_47 : decode cX10_unpack 47 = .ok (.putfield 76, 3) := by decide +kernel
theorem dX10_unpack_50 : decode cX10_unpack 50 = .ok (.iload_n 1, 1) := by decide +kernel
theorem dX10_unpack_51 : decode cX10_unpack 51 = .ok (.ifCond .ne 13, 3) := by decide +kernel
theorem dX10_unpack_54 : decode cX10_unpack 54 = .ok (.aload_n 0, 1) := by decide +kernel
theorem dX10_unpack_55 : decode cX10_unpack 55 = .ok (.getfield 14, 3) := by decide +kernel
theorem dX10_unpack_58 : decode cX10_unpack 58 = .ok (.invokevirtual 86, 3) := by decide +kernel
theorem dX10_unpack_61 : decode cX10_unpack 61 = .ok (.goto 7, 3) := by decide +kernel
theorem dX10_unpack_64 : decode cX10_unpack 64 = .ok (.bipush (-10), 2) := by decide +kernel
theorem dX10_unpack_66 : decode cX10_unpack 66 = .ok (.iload_n 1, 1) := by decide +kernel
theorem dX10_unpack_67 : decode cX10_unpack 67 = .ok (.isub, 1) := by decide +kernel
theorem dX10_unpack_68 : decode cX10_unpack 68 = .ok (.ireturn, 1) := by decide +kernel
theorem dX10_place_0 : decode cX10_place 0 = .ok (.aload_n 0, 1) := by decide +kernel
theorem dX10_place_1 : decode cX10_place 1 = .ok (.getfield 76, 3) := by decide +kernel
theorem dX10_place_4 : decode cX10_place 4 = .ok (.ireturn, 1) := by decide +kernel
theorem dX10_isByte_0 : decode cX10_isByte 0 = .ok (.iload_n 0, 1) := by decide +kernel
theorem dX10_isByte_1 : decode cX10_isByte 1 = .ok (.ifCond .lt 14, 3) := by decide +kernel
theorem dX10_isByte_4 : decode cX10_isByte 4 = .ok (.iload_n 0, 1) := by decide +kernel
theorem dX10_isByte_5 : decode cX10_isByte 5 = .ok (.sipush 256, 3) := by decide +kernel
theorem dX10_isByte_8 : decode cX10_isByte 8 = .ok (.if_icmp .ge 7, 3) := by decide +kernel
theorem dX10_isByte_11 : decode cX10_isByte 11 = .ok (.iconst 1, 1) := by decide +kernel
theorem dX10_isByte_12 : decode cX10_isByte 12 = .ok (.goto 4, 3) := by decide +kernel
theorem dX10_isByte_15 : decode cX10_isByte 15 = .ok (.iconst 0, 1) := by decide +kernel
theorem dX10_isByte_16 : decode cX10_isByte 16 = .ok (.ireturn, 1) := by decide +kernel
theorem dX10_drawn_0 : decode cX10_drawn 0 = .ok (.iload_n 1, 1) := by decide +kernel
theorem dX10_drawn_1 : decode cX10_drawn 1 = .ok (.tableswitch 42 0 2 #[27, 33, 37], 27) := by decide +kernel
theorem dX10_drawn_28 : decode cX10_drawn 28 = .ok (.iload_n 0, 1) := by decide +kernel
theorem dX10_drawn_29 : decode cX10_drawn 29 = .ok (.sipush 256, 3) := by decide +kernel
theorem dX10_drawn_32 : decode cX10_drawn 32 = .ok (.irem, 1) := by decide +kernel
theorem dX10_drawn_33 : decode cX10_drawn 33 = .ok (.ireturn, 1) := by decide +kernel
theorem dX10_drawn_34 : decode cX10_drawn 34 = .ok (.iload_n 0, 1) := by decide +kernel
theorem dX10_drawn_35 : decode cX10_drawn 35 = .ok (.iconst 4, 1) := by decide +kernel
theorem dX10_drawn_36 : decode cX10_drawn 36 = .ok (.irem, 1) := by decide +kernel
theorem dX10_drawn_37 : decode cX10_drawn 37 = .ok (.ireturn, 1) := by decide +kernel
theorem dX10_drawn_38 : decode cX10_drawn 38 = .ok (.iload_n 0, 1) := by decide +kernel
theorem dX10_drawn_39 : decode cX10_drawn 39 = .ok (.bipush 8, 2) := by decide +kernel
theorem dX10_drawn_41 : decode cX10_drawn 41 = .ok (.irem, 1) := by decide +kernel
theorem dX10_drawn_42 : decode cX10_drawn 42 = .ok (.ireturn, 1) := by decide +kernel
theorem dX10_drawn_43 : decode cX10_drawn 43 = .ok (.iload_n 2, 1) := by decide +kernel
theorem dX10_drawn_44 : decode cX10_drawn 44 = .ok (.iload_n 0, 1) := by decide +kernel
theorem dX10_drawn_45 : decode cX10_drawn 45 = .ok (.iconst 4, 1) := by decide +kernel
theorem dX10_drawn_46 : decode cX10_drawn 46 = .ok (.irem, 1) := by decide +kernel
theorem dX10_drawn_47 : decode cX10_drawn 47 = .ok (.iadd, 1) := by decide +kernel
theorem dX10_drawn_48 : decode cX10_drawn 48 = .ok (.sipush 256, 3) := by decide +kernel
theorem dX10_drawn_51 : decode cX10_drawn 51 = .ok (.irem, 1) := by decide +kernel
theorem dX10_drawn_52 : decode cX10_drawn 52 = .ok (.ireturn, 1) := by decide +kernel
theorem dX10_rowOf_0 : decode cX10_rowOf 0 = .ok (.iload_n 1, 1) := by decide +kernel
theorem dX10_rowOf_1 : decode cX10_rowOf 1 = .ok (.ifCond .ne 10, 3) := by decide +kernel
theorem dX10_rowOf_4 : decode cX10_rowOf 4 = .ok (.aload_n 0, 1) := by decide +kernel
theorem dX10_rowOf_5 : decode cX10_rowOf 5 = .ok (.getfield 14, 3) := by decide +kernel
theorem dX10_rowOf_8 : decode cX10_rowOf 8 = .ok (.goto 7, 3) := by decide +kernel
theorem dX10_rowOf_11 : decode cX10_rowOf 11 = .ok (.aload_n 0, 1) := by decide +kernel
theorem dX10_rowOf_12 : decode cX10_rowOf 12 = .ok (.getfield 18, 3) := by decide +kernel
theorem dX10_rowOf_15 : decode cX10_rowOf 15 = .ok (.areturn, 1) := by decide +kernel
theorem dX10_dropChoices_0 : decode cX10_dropChoices 0 = .ok (.aload_n 0, 1) := by decide +kernel
theorem dX10_dropChoices_1 : decode cX10_dropChoices 1 = .ok (.iconst 0, 1) := by decide +kernel
theorem dX10_dropChoices_2 : decode cX10_dropChoices 2 = .ok (.putfield 72, 3) := by decide +kernel
theorem dX10_dropChoices_5 : decode cX10_dropChoices 5 = .ok (.aload_n 0, 1) := by decide +kernel
theorem dX10_dropChoices_6 : decode cX10_dropChoices 6 = .ok (.getfield 69, 3) := by decide +kernel
theorem dX10_dropChoices_9 : decode cX10_dropChoices 9 = .ok (.bipush (-3), 2) := by decide +kernel
theorem dX10_dropChoices_11 : decode cX10_dropChoices 11 = .ok (.invokestatic 80, 3) := by decide +kernel
theorem dX10_dropChoices_14 : decode cX10_dropChoices 14 = .ok (.return_, 1) := by decide +kernel
theorem dX10_filtered_0 : decode cX10_filtered 0 = .ok (.aload_n 0, 1) := by decide +kernel
theorem dX10_filtered_1 : decode cX10_filtered 1 = .ok (.getfield 14, 3) := by decide +kernel
theorem dX10_filtered_4 : decode cX10_filtered 4 = .ok (.astore_n 2, 1) := by decide +kernel
theorem dX10_filtered_5 : decode cX10_filtered 5 = .ok (.aload_n 0, 1) := by decide +kernel
theorem dX10_filtered_6 : decode cX10_filtered 6 = .ok (.getfield 33, 3) := by decide +kernel
theorem dX10_filtered_9 : decode cX10_filtered 9 = .ok (.iload_n 1, 1) := by decide +kernel
theorem dX10_filtered_10 : decode cX10_filtered 10 = .ok (.iconst 0, 1) := by decide +kernel
theorem dX10_filtered_11 : decode cX10_filtered 11 = .ok (.invokevirtual 146, 3) := by decide +kernel
theorem dX10_filtered_14 : decode cX10_filtered 14 = .ok (.istore_n 3, 1) := by decide +kernel
theorem dX10_filtered_15 : decode cX10_filtered 15 = .ok (.iload_n 3, 1) := by decide +kernel
theorem dX10_filtered_16 : decode cX10_filtered 16 = .ok (.bipush (-3), 2) := by decide +kernel
theorem dX10_filtered_18 : decode cX10_filtered 18 = .ok (.if_icmp .eq 36, 3) := by decide +kernel
theorem dX10_filtered_21 : decode cX10_filtered 21 = .ok (.aload_n 0, 1) := by decide +kernel
theorem dX10_filtered_22 : decode cX10_filtered 22 = .ok (.getfield 40, 3) := by decide +kernel
theorem dX10_filtered_25 : decode cX10_filtered 25 = .ok (.aload_n 0, 1) := by decide +kernel
theorem dX10_filtered_26 : decode cX10_filtered 26 = .ok (.getfield 33, 3) := by decide +kernel
theorem dX10_filtered_29 : decode cX10_filtered 29 = .ok (.iload_n 3, 1) := by decide +kernel
theorem dX10_filtered_30 : decode cX10_filtered 30 = .ok (.invokevirtual 208, 3) := by decide +kernel
theorem dX10_filtered_33 : decode cX10_filtered 33 = .ok (.aload_n 0, 1) := by decide +kernel
theorem dX10_filtered_34 : decode cX10_filtered 34 = .ok (.getfield 33, 3) := by decide +kernel
theorem dX10_filtered_37 : decode cX10_filtered 37 = .ok (.iload_n 3, 1) := by decide +kernel
theorem dX10_filtered_38 : decode cX10_filtered 38 = .ok (.invokevirtual 211, 3) := by decide +kernel
theorem dX10_filtered_41 : decode cX10_filtered 41 = .ok (.aload_n 2, 1) := by decide +kernel
theorem dX10_filtered_42 : decode cX10_filtered 42 = .ok (.aload_n 0, 1) := by decide +kernel
theorem dX10_filtered_43 : decode cX10_filtered 43 = .ok (.getfield 24, 3) := by decide +kernel
theorem dX10_filtered_46 : decode cX10_filtered 46 = .ok (.invokevirtual 214, 3) := by decide +kernel
theorem dX10_filtered_49 : decode cX10_filtered 49 = .ok (.aload_n 0, 1) := by decide +kernel
theorem dX10_filtered_50 : decode cX10_filtered 50 = .ok (.getfield 24, 3) := by decide +kernel
theorem dX10_filtered_53 : decode cX10_filtered 53 = .ok (.astore_n 2, 1) := by decide +kernel
theorem dX10_filtered_54 : decode cX10_filtered 54 = .ok (.aload_n 0, 1) := by decide +kernel
theorem dX10_filtered_55 : decode cX10_filtered 55 = .ok (.getfield 33, 3) := by decide +kernel
theorem dX10_filtered_58 : decode cX10_filtered 58 = .ok (.iload_n 1, 1) := by decide +kernel
theorem dX10_filtered_59 : decode cX10_filtered 59 = .ok (.iconst 1, 1) := by decide +kernel
theorem dX10_filtered_60 : decode cX10_filtered 60 = .ok (.invokevirtual 146, 3) := by decide +kernel
theorem dX10_filtered_63 : decode cX10_filtered 63 = .ok (.istore 4, 2) := by decide +kernel
theorem dX10_filtered_65 : decode cX10_filtered 65 = .ok (.iload 4, 2) := by decide +kernel
theorem dX10_filtered_67 : decode cX10_filtered 67 = .ok (.bipush (-3), 2) := by decide +kernel
theorem dX10_filtered_69 : decode cX10_filtered 69 = .ok (.if_icmp .eq 38, 3) := by decide +kernel
theorem dX10_filtered_72 : decode cX10_filtered 72 = .ok (.aload_n 0, 1) := by decide +kernel
theorem dX10_filtered_73 : decode cX10_filtered 73 = .ok (.getfield 40, 3) := by decide +kernel
theorem dX10_filtered_76 : decode cX10_filtered 76 = .ok (.aload_n 0, 1) := by decide +kernel
theorem dX10_filtered_77 : decode cX10_filtered 77 = .ok (.getfield 33, 3) := by decide +kernel
theorem dX10_filtered_80 : decode cX10_filtered 80 = .ok (.iload 4, 2) := by decide +kernel
theorem dX10_filtered_82 : decode cX10_filtered 82 = .ok (.invokevirtual 208, 3) := by decide +kernel
theorem dX10_filtered_85 : decode cX10_filtered 85 = .ok (.aload_n 0, 1) := by decide +kernel
theorem dX10_filtered_86 : decode cX10_filtered 86 = .ok (.getfield 33, 3) := by decide +kernel
theorem dX10_filtered_89 : decode cX10_filtered 89 = .ok (.iload 4, 2) := by decide +kernel
theorem dX10_filtered_91 : decode cX10_filtered 91 = .ok (.invokevirtual 211, 3) := by decide +kernel
theorem dX10_filtered_94 : decode cX10_filtered 94 = .ok (.aload_n 2, 1) := by decide +kernel
theorem dX10_filtered_95 : decode cX10_filtered 95 = .ok (.aload_n 0, 1) := by decide +kernel
theorem dX10_filtered_96 : decode cX10_filtered 96 = .ok (.getfield 27, 3) := by decide +kernel
theorem dX10_filtered_99 : decode cX10_filtered 99 = .ok (.invokevirtual 214, 3) := by decide +kernel
theorem dX10_filtered_102 : decode cX10_filtered 102 = .ok (.aload_n 0, 1) := by decide +kernel
theorem dX10_filtered_103 : decode cX10_filtered 103 = .ok (.getfield 27, 3) := by decide +kernel
theorem dX10_filtered_106 : decode cX10_filtered 106 = .ok (.astore_n 2, 1) := by decide +kernel
theorem dX10_filtered_107 : decode cX10_filtered 107 = .ok (.aload_n 2, 1) := by decide +kernel
theorem dX10_filtered_108 : decode cX10_filtered 108 = .ok (.areturn, 1) := by decide +kernel
theorem dX10_writeHead_0 : decode cX10_writeHead 0 = .ok (.aload_n 0, 1) := by decide +kernel
theorem dX10_writeHead_1 : decode cX10_writeHead 1 = .ok (.getfield 33, 3) := by decide +kernel
theorem dX10_writeHead_4 : decode cX10_writeHead 4 = .ok (.iload_n 1, 1) := by decide +kernel
theorem dX10_writeHead_5 : decode cX10_writeHead 5 = .ok (.invokevirtual 218, 3) := by decide +kernel
theorem dX10_writeHead_8 : decode cX10_writeHead 8 = .ok (.istore_n 3, 1) := by decide +kernel
theorem dX10_writeHead_9 : decode cX10_writeHead 9 = .ok (.aload_n 2, 1) := by decide +kernel
theorem dX10_writeHead_10 : decode cX10_writeHead 10 = .ok (.invokevirtual 90, 3) := by decide +kernel
theorem dX10_writeHead_13 : decode cX10_writeHead 13 = .ok (.aload_n 2, 1) := by decide +kernel
theorem dX10_writeHead_14 : decode cX10_writeHead 14 = .ok (.iload_n 3, 1) := by decide +kernel
theorem dX10_writeHead_15 : decode cX10_writeHead 15 = .ok (.invokevirtual 97, 3) := by decide +kernel
theorem dX10_writeHead_18 : decode cX10_writeHead 18 = .ok (.iconst 0, 1) := by decide +kernel
theorem dX10_writeHead_19 : decode cX10_writeHead 19 = .ok (.istore 4, 2) := by decide +kernel
theorem dX10_writeHead_21 : decode cX10_writeHead 21 = .ok (.iload 4, 2) := by decide +kernel
theorem dX10_writeHead_23 : decode cX10_writeHead 23 = .ok (.iload_n 3, 1) := by decide +kernel
theorem dX10_writeHead_24 : decode cX10_writeHead 24 = .ok (.if_icmp .ge 47, 3) := by decide +kernel
theorem dX10_writeHead_27 : decode cX10_writeHead 27 = .ok (.aload_n 0, 1) := by decide +kernel
theorem dX10_writeHead_28 : decode cX10_writeHead 28 = .ok (.getfield 33, 3) := by decide +kernel
theorem dX10_writeHead_31 : decode cX10_writeHead 31 = .ok (.iload_n 1, 1) := by decide +kernel
theorem dX10_writeHead_32 : decode cX10_writeHead 32 = .ok (.iload 4, 2) := by decide +kernel
theorem dX10_writeHead_34 : decode cX10_writeHead 34 = .ok (.invokevirtual 146, 3) := by decide +kernel
theorem dX10_writeHead_37 : decode cX10_writeHead 37 = .ok (.istore 5, 2) := by decide +kernel
theorem dX10_writeHead_39 : decode cX10_writeHead 39 = .ok (.aload_n 2, 1) := by decide +kernel
theorem dX10_writeHead_40 : decode cX10_writeHead 40 = .ok (.aload_n 0, 1) := by decide +kernel
theorem dX10_writeHead_41 : decode cX10_writeHead 41 = .ok (.getfield 33, 3) := by decide +kernel
theorem dX10_writeHead_44 : decode cX10_writeHead 44 = .ok (.iload 5, 2) := by decide +kernel
theorem dX10_writeHead_46 : decode cX10_writeHead 46 = .ok (.invokevirtual 208, 3) := by decide +kernel
theorem dX10_writeHead_49 : decode cX10_writeHead 49 = .ok (.invokevirtual 97, 3) := by decide +kernel
theorem dX10_writeHead_52 : decode cX10_writeHead 52 = .ok (.aload_n 2, 1) := by decide +kernel
theorem dX10_writeHead_53 : decode cX10_writeHead 53 = .ok (.aload_n 0, 1) := by decide +kernel
theorem dX10_writeHead_54 : decode cX10_writeHead 54 = .ok (.getfield 33, 3) := by decide +kernel
theorem dX10_writeHead_57 : decode cX10_writeHead 57 = .ok (.iload 5, 2) := by decide +kernel
theorem dX10_writeHead_59 : decode cX10_writeHead 59 = .ok (.invokevirtual 211, 3) := by decide +kernel
theorem dX10_writeHead_62 : decode cX10_writeHead 62 = .ok (.invokevirtual 97, 3) := by decide +kernel
theorem dX10_writeHead_65 : decode cX10_writeHead 65 = .ok (.iinc 4 1, 3) := by decide +kernel
theorem dX10_writeHead_68 : decode cX10_writeHead 68 = .ok (.goto (-47), 3) := by decide +kernel
theorem dX10_writeHead_71 : decode cX10_writeHead 71 = .ok (.aload_n 2, 1) := by decide +kernel
theorem dX10_writeHead_72 : decode cX10_writeHead 72 = .ok (.aload_n 0, 1) := by decide +kernel
theorem dX10_writeHead_73 : decode cX10_writeHead 73 = .ok (.getfield 33, 3) := by decide +kernel
theorem dX10_writeHead_76 : decode cX10_writeHead 76 = .ok (.iload_n 1, 1) := by decide +kernel
theorem dX10_writeHead_77 : decode cX10_writeHead 77 = .ok (.invokevirtual 150, 3) := by decide +kernel
theorem dX10_writeHead_80 : decode cX10_writeHead 80 = .ok (.invokevirtual 97, 3) := by decide +kernel
theorem dX10_writeHead_83 : decode cX10_writeHead 83 = .ok (.aload_n 2, 1) := by decide +kernel
theorem dX10_writeHead_84 : decode cX10_writeHead 84 = .ok (.aload_n 0, 1) := by decide +kernel
theorem dX10_writeHead_85 : decode cX10_writeHead 85 = .ok (.getfield 14, 3) := by decide +kernel
theorem dX10_writeHead_88 : decode cX10_writeHead 88 = .ok (.invokevirtual 86, 3) := by decide +kernel
theorem dX10_writeHead_91 : decode cX10_writeHead 91 = .ok (.bipush 8, 2) := by decide +kernel
theorem dX10_writeHead_93 : decode cX10_writeHead 93 = .ok (.ishr, 1) := by decide +kernel
theorem dX10_writeHead_94 : decode cX10_writeHead 94 = .ok (.invokevirtual 97, 3) := by decide +kernel
theorem dX10_writeHead_97 : decode cX10_writeHead 97 = .ok (.aload_n 2, 1) := by decide +kernel
theorem dX10_writeHead_98 : decode cX10_writeHead 98 = .ok (.aload_n 0, 1) := by decide +kernel
theorem dX10_writeHead_99 : decode cX10_writeHead 99 = .ok (.getfield 14, 3) := by decide +kernel
theorem dX10_writeHead_102 : decode cX10_writeHead 102 = .ok (.invokevirtual 86, 3) := by decide +kernel
theorem dX10_writeHead_105 : decode cX10_writeHead 105 = .ok (.invokevirtual 97, 3) := by decide +kernel
theorem dX10_writeHead_108 : decode cX10_writeHead 108 = .ok (.return_, 1) := by decide +kernel
theorem dX10_tryChains_0 : decode cX10_tryChains 0 = .ok (.aload_n 0, 1) := by decide +kernel
theorem dX10_tryChains_1 : decode cX10_tryChains 1 = .ok (.getfield 33, 3) := by decide +kernel
theorem dX10_tryChains_4 : decode cX10_tryChains 4 = .ok (.invokevirtual 139, 3) := by decide +kernel
theorem dX10_tryChains_7 : decode cX10_tryChains 7 = .ok (.istore_n 3, 1) := by decide +kernel
theorem dX10_tryChains_8 : decode cX10_tryChains 8 = .ok (.iload_n 1, 1) := by decide +kernel
theorem dX10_tryChains_9 : decode cX10_tryChains 9 = .ok (.istore 4, 2) := by decide +kernel
theorem dX10_tryChains_11 : decode cX10_tryChains 11 = .ok (.iconst (-1), 1) := by decide +kernel
theorem dX10_tryChains_12 : decode cX10_tryChains 12 = .ok (.istore 5, 2) := by decide +kernel
theorem dX10_tryChains_14 : decode cX10_tryChains 14 = .ok (.aload_n 0, 1) := by decide +kernel
theorem dX10_tryChains_15 : decode cX10_tryChains 15 = .ok (.getfield 14, 3) := by decide +kernel
theorem dX10_tryChains_18 : decode cX10_tryChains 18 = .ok (.astore 6, 2) := by decide +kernel
theorem dX10_tryChains_20 : decode cX10_tryChains 20 = .ok (.iconst 0, 1) := by decide +kernel
theorem dX10_tryChains_21 : decode cX10_tryChains 21 = .ok (.istore 7, 2) := by decide +kernel
theorem dX10_tryChains_23 : decode cX10_tryChains 23 = .ok (.iload 7, 2) := by decide +kernel
theorem dX10_tryChains_25 : decode cX10_tryChains 25 = .ok (.iload_n 3, 1) := by decide +kernel
theorem dX10_tryChains_26 : decode cX10_tryChains 26 = .ok (.if_icmp .ge 194, 3) := by decide +kernel
theorem dX10_tryChains_29 : decode cX10_tryChains 29 = .ok (.aload_n 0, 1) := by decide +kernel
theorem dX10_tryChains_30 : decode cX10_tryChains 30 = .ok (.getfield 33, 3) := by decide +kernel
theorem dX10_tryChains_33 : decode cX10_tryChains 33 = .ok (.iload 7, 2) := by decide +kernel
theorem dX10_tryChains_35 : decode cX10_tryChains 35 = .ok (.invokevirtual 156, 3) := by decide +kernel
theorem dX10_tryChains_38 : decode cX10_tryChains 38 = .ok (.iload_n 2, 1) := by decide +kernel
theorem dX10_tryChains_39 : decode cX10_tryChains 39 = .ok (.if_icmp .le 16, 3) := by decide +kernel
theorem dX10_tryChains_42 : decode cX10_tryChains 42 = .ok (.aload_n 0, 1) := by decide +kernel
theorem dX10_tryChains_43 : decode cX10_tryChains 43 = .ok (.getfield 65, 3) := by decide +kernel
theorem dX10_tryChains_46 : decode cX10_tryChains 46 = .ok (.iconst 4, 1) := by decide +kernel
theorem dX10_tryChains_47 : decode cX10_tryChains 47 = .ok (.dup2, 1) := by decide +kernel
theorem dX10_tryChains_48 : decode cX10_tryChains 48 = .ok (.iaload, 1) := by decide +kernel
theorem dX10_tryChains_49 : decode cX10_tryChains 49 = .ok (.iconst 1, 1) := by decide +kernel
theorem dX10_tryChains_50 : decode cX10_tryChains 50 = .ok (.iadd, 1) := by decide +kernel
theorem dX10_tryChains_51 : decode cX10_tryChains 51 = .ok (.iastore, 1) := by decide +kernel
theorem dX10_tryChains_52 : decode cX10_tryChains 52 = .ok (.goto 162, 3) := by decide +kernel
theorem dX10_tryChains_55 : decode cX10_tryChains 55 = .ok (.aload_n 0, 1) := by decide +kernel
theorem dX10_tryChains_56 : decode cX10_tryChains 56 = .ok (.getfield 33, 3) := by decide +kernel
theorem dX10_tryChains_59 : decode cX10_tryChains 59 = .ok (.iload 7, 2) := by decide +kernel
theorem dX10_tryChains_61 : decode cX10_tryChains 61 = .ok (.invokevirtual 153, 3) := by decide +kernel
theorem dX10_tryChains_64 : decode cX10_tryChains 64 = .ok (.aload_n 0, 1) := by decide +kernel
theorem dX10_tryChains_65 : decode cX10_tryChains 65 = .ok (.getfield 14, 3) := by decide +kernel
theorem dX10_tryChains_68 : decode cX10_tryChains 68 = .ok (.invokevirtual 86, 3) := by decide +kernel
theorem dX10_tryChains_71 : decode cX10_tryChains 71 = .ok (.imul, 1) := by decide +kernel
theorem dX10_tryChains_72 : decode cX10_tryChains 72 = .ok (.istore 8, 2) := by decide +kernel
theorem dX10_tryChains_74 : decode cX10_tryChains 74 = .ok (.iload 8, 2) := by decide +kernel
theorem dX10_tryChains_76 : decode cX10_tryChains 76 = .ok (.iload 4, 2) := by decide +kernel
theorem dX10_tryChains_78 : decode cX10_tryChains 78 = .ok (.if_icmp .le 6, 3) := by decide +kernel
theorem dX10_tryChains_81 : decode cX10_tryChains 81 = .ok (.goto 139, 3) := by decide +kernel
theorem dX10_tryChains_84 : decode cX10_tryChains 84 = .ok (.iload 4, 2) := by decide +kernel
theorem dX10_tryChains_86 : decode cX10_tryChains 86 = .ok (.iload 8, 2) := by decide +kernel
theorem dX10_tryChains_88 : decode cX10_tryChains 88 = .ok (.isub, 1) := by decide +kernel
theorem dX10_tryChains_89 : decode cX10_tryChains 89 = .ok (.istore 4, 2) := by decide +kernel
theorem dX10_tryChains_91 : decode cX10_tryChains 91 = .ok (.aload_n 0, 1) := by decide +kernel
theorem dX10_tryChains_92 : decode cX10_tryChains 92 = .ok (.getfield 33, 3) := by decide +kernel
theorem dX10_tryChains_95 : decode cX10_tryChains 95 = .ok (.iload 7, 2) := by decide +kernel
theorem dX10_tryChains_97 : decode cX10_tryChains 97 = .ok (.invokevirtual 221, 3) := by decide +kernel
theorem dX10_tryChains_100 : decode cX10_tryChains 100 = .ok (.iload 5, 2) := by decide +kernel
theorem dX10_tryChains_102 : decode cX10_tryChains 102 = .ok (.if_icmp .eq 22, 3) := by decide +kernel
theorem dX10_tryChains_105 : decode cX10_tryChains 105 = .ok (.aload_n 0, 1) := by decide +kernel
theorem dX10_tryChains_106 : decode cX10_tryChains 106 = .ok (.getfield 33, 3) := by decide +kernel
theorem dX10_tryChains_109 : decode cX10_tryChains 109 = .ok (.iload 7, 2) := by decide +kernel
theorem dX10_tryChains_111 : decode cX10_tryChains 111 = .ok (.invokevirtual 221, 3) := by decide +kernel
theorem dX10_tryChains_114 : decode cX10_tryChains 114 = .ok (.istore 5, 2) := by decide +kernel
theorem dX10_tryChains_116 : decode cX10_tryChains 116 = .ok (.aload_n 0, 1) := by decide +kernel
theorem dX10_tryChains_117 : decode cX10_tryChains 117 = .ok (.iload 7, 2) := by decide +kernel
theorem dX10_tryChains_119 : decode cX10_tryChains 119 = .ok (.invokevirtual 163, 3) := by decide +kernel
theorem dX10_tryChains_122 : decode cX10_tryChains 122 = .ok (.astore 6, 2) := by decide +kernel
theorem dX10_tryChains_124 : decode cX10_tryChains 124 = .ok (.aload_n 0, 1) := by decide +kernel
theorem dX10_tryChains_125 : decode cX10_tryChains 125 = .ok (.iload 7, 2) := by decide +kernel
theorem dX10_tryChains_127 : decode cX10_tryChains 127 = .ok (.aload_n 0, 1) := by decide +kernel
theorem dX10_tryChains_128 : decode cX10_tryChains 128 = .ok (.getfield 21, 3) := by decide +kernel
theorem dX10_tryChains_131 : decode cX10_tryChains 131 = .ok (.invokevirtual 159, 3) := by decide +kernel
theorem dX10_tryChains_134 : decode cX10_tryChains 134 = .ok (.aload_n 0, 1) := by decide +kernel
theorem dX10_tryChains_135 : decode cX10_tryChains 135 = .ok (.getfield 47, 3) := by decide +kernel
theorem dX10_tryChains_138 : decode cX10_tryChains 138 = .ok (.aload_n 0, 1) := by decide +kernel
theorem dX10_tryChains_139 : decode cX10_tryChains 139 = .ok (.getfield 33, 3) := by decide +kernel
theorem dX10_tryChains_142 : decode cX10_tryChains 142 = .ok (.iload 7, 2) := by decide +kernel
theorem dX10_tryChains_144 : decode cX10_tryChains 144 = .ok (.invokevirtual 150, 3) := by decide +kernel
theorem dX10_tryChains_147 : decode cX10_tryChains 147 = .ok (.aload 6, 2) := by decide +kernel
theorem dX10_tryChains_149 : decode cX10_tryChains 149 = .ok (.aload_n 0, 1) := by decide +kernel
theorem dX10_tryChains_150 : decode cX10_tryChains 150 = .ok (.getfield 21, 3) := by decide +kernel
theorem dX10_tryChains_153 : decode cX10_tryChains 153 = .ok (.invokevirtual 166, 3) := by decide +kernel
theorem dX10_tryChains_156 : decode cX10_tryChains 156 = .ok (.aload_n 0, 1) := by decide +kernel
theorem dX10_tryChains_157 : decode cX10_tryChains 157 = .ok (.getfield 65, 3) := by decide +kernel
theorem dX10_tryChains_160 : decode cX10_tryChains 160 = .ok (.iconst 0, 1) := by decide +kernel
theorem dX10_tryChains_161 : decode cX10_tryChains 161 = .ok (.dup2, 1) := by decide +kernel
theorem dX10_tryChains_162 : decode cX10_tryChains 162 = .ok (.iaload, 1) := by decide +kernel
theorem dX10_tryChains_163 : decode cX10_tryChains 163 = .ok (.iconst 1, 1) := by decide +kernel
theorem dX10_tryChains_164 : decode cX10_tryChains 164 = .ok (.iadd, 1) := by decide +kernel
theorem dX10_tryChains_165 : decode cX10_tryChains 165 = .ok (.iastore, 1) := by decide +kernel
theorem dX10_tryChains_166 : decode cX10_tryChains 166 = .ok (.aload_n 0, 1) := by decide +kernel
theorem dX10_tryChains_167 : decode cX10_tryChains 167 = .ok (.getfield 65, 3) := by decide +kernel
theorem dX10_tryChains_170 : decode cX10_tryChains 170 = .ok (.iconst 1, 1) := by decide +kernel
theorem dX10_tryChains_171 : decode cX10_tryChains 171 = .ok (.dup2, 1) := by decide +kernel
theorem dX10_tryChains_172 : decode cX10_tryChains 172 = .ok (.iaload, 1) := by decide +kernel
theorem dX10_tryChains_173 : decode cX10_tryChains 173 = .ok (.iload 8, 2) := by decide +kernel
theorem dX10_tryChains_175 : decode cX10_tryChains 175 = .ok (.iadd, 1) := by decide +kernel
theorem dX10_tryChains_176 : decode cX10_tryChains 176 = .ok (.iastore, 1) := by decide +kernel
theorem dX10_tryChains_177 : decode cX10_tryChains 177 = .ok (.aload_n 0, 1) := by decide +kernel
theorem dX10_tryChains_178 : decode cX10_tryChains 178 = .ok (.iload 7, 2) := by decide +kernel
theorem dX10_tryChains_180 : decode cX10_tryChains 180 = .ok (.aload_n 0, 1) := by decide +kernel
theorem dX10_tryChains_181 : decode cX10_tryChains 181 = .ok (.getfield 21, 3) := by decide +kernel
theorem dX10_tryChains_184 : decode cX10_tryChains 184 = .ok (.invokevirtual 86, 3) := by decide +kernel
theorem dX10_tryChains_187 : decode cX10_tryChains 187 = .ok (.invokevirtual 224, 3) := by decide +kernel
theorem dX10_tryChains_190 : decode cX10_tryChains 190 = .ok (.ifCond .eq 24, 3) := by decide +kernel
theorem dX10_tryChains_193 : decode cX10_tryChains 193 = .ok (.aload_n 0, 1) := by decide +kernel
theorem dX10_tryChains_194 : decode cX10_tryChains 194 = .ok (.getfield 65, 3) := by decide +kernel
theorem dX10_tryChains_197 : decode cX10_tryChains 197 = .ok (.iconst 2, 1) := by decide +kernel
theorem dX10_tryChains_198 : decode cX10_tryChains 198 = .ok (.iload 7, 2) := by decide +kernel
theorem dX10_tryChains_200 : decode cX10_tryChains 200 = .ok (.iastore, 1) := by decide +kernel
theorem dX10_tryChains_201 : decode cX10_tryChains 201 = .ok (.aload_n 0, 1) := by decide +kernel
theorem dX10_tryChains_202 : decode cX10_tryChains 202 = .ok (.getfield 65, 3) := by decide +kernel
theorem dX10_tryChains_205 : decode cX10_tryChains 205 = .ok (.iconst 3, 1) := by decide +kernel
theorem dX10_tryChains_206 : decode cX10_tryChains 206 = .ok (.aload_n 0, 1) := by decide +kernel
theorem dX10_tryChains_207 : decode cX10_tryChains 207 = .ok (.getfield 21, 3) := by decide +kernel
theorem dX10_tryChains_210 : decode cX10_tryChains 210 = .ok (.invokevirtual 86, 3) := by decide +kernel
theorem dX10_tryChains_213 : decode cX10_tryChains 213 = .ok (.iastore, 1) := by decide +kernel
theorem dX10_tryChains_214 : decode cX10_tryChains 214 = .ok (.iinc 7 1, 3) := by decide +kernel
theorem dX10_tryChains_217 : decode cX10_tryChains 217 = .ok (.goto (-194), 3) := by decide +kernel
theorem dX10_tryChains_220 : decode cX10_tryChains 220 = .ok (.return_, 1) := by decide +kernel
theorem dX10_isBetter_0 : decode cX10_isBetter 0 = .ok (.iload_n 2, 1) := by decide +kernel
theorem dX10_isBetter_1 : decode cX10_isBetter 1 = .ok (.aload_n 0, 1) := by decide +kernel
theorem dX10_isBetter_2 : decode cX10_isBetter 2 = .ok (.getfield 65, 3) := by decide +kernel
theorem dX10_isBetter_5 : decode cX10_isBetter 5 = .ok (.iconst 3, 1) := by decide +kernel
theorem dX10_isBetter_6 : decode cX10_isBetter 6 = .ok (.iaload, 1) := by decide +kernel
theorem dX10_isBetter_7 : decode cX10_isBetter 7 = .ok (.if_icmp .eq 19, 3) := by decide +kernel
theorem dX10_isBetter_10 : decode cX10_isBetter 10 = .ok (.iload_n 2, 1) := by decide +kernel
theorem dX10_isBetter_11 : decode cX10_isBetter 11 = .ok (.aload_n 0, 1) := by decide +kernel
theorem dX10_isBetter_12 : decode cX10_isBetter 12 = .ok (.getfield 65, 3) := by decide +kernel
theorem dX10_isBetter_15 : decode cX10_isBetter 15 = .ok (.iconst 3, 1) := by decide +kernel
theorem dX10_isBetter_16 : decode cX10_isBetter 16 = .ok (.iaload, 1) := by decide +kernel
theorem dX10_isBetter_17 : decode cX10_isBetter 17 = .ok (.if_icmp .ge 7, 3) := by decide +kernel
theorem dX10_isBetter_20 : decode cX10_isBetter 20 = .ok (.iconst 1, 1) := by decide +kernel
theorem dX10_isBetter_21 : decode cX10_isBetter 21 = .ok (.goto 4, 3) := by decide +kernel
theorem dX10_isBetter_24 : decode cX10_isBetter 24 = .ok (.iconst 0, 1) := by decide +kernel
theorem dX10_isBetter_25 : decode cX10_isBetter 25 = .ok (.ireturn, 1) := by decide +kernel
theorem dX10_isBetter_26 : decode cX10_isBetter 26 = .ok (.aload_n 0, 1) := by decide +kernel
theorem dX10_isBetter_27 : decode cX10_isBetter 27 = .ok (.getfield 33, 3) := by decide +kernel
theorem dX10_isBetter_30 : decode cX10_isBetter 30 = .ok (.iload_n 1, 1) := by decide +kernel
theorem dX10_isBetter_31 : decode cX10_isBetter 31 = .ok (.invokevirtual 153, 3) := by decide +kernel
theorem dX10_isBetter_34 : decode cX10_isBetter 34 = .ok (.aload_n 0, 1) := by decide +kernel
theorem dX10_isBetter_35 : decode cX10_isBetter 35 = .ok (.getfield 33, 3) := by decide +kernel
theorem dX10_isBetter_38 : decode cX10_isBetter 38 = .ok (.aload_n 0, 1) := by decide +kernel
theorem dX10_isBetter_39 : decode cX10_isBetter 39 = .ok (.getfield 65, 3) := by decide +kernel
theorem dX10_isBetter_42 : decode cX10_isBetter 42 = .ok (.iconst 2, 1) := by decide +kernel
theorem dX10_isBetter_43 : decode cX10_isBetter 43 = .ok (.iaload, 1) := by decide +kernel
theorem dX10_isBetter_44 : decode cX10_isBetter 44 = .ok (.invokevirtual 153, 3) := by decide +kernel
theorem dX10_isBetter_47 : decode cX10_isBetter 47 = .ok (.if_icmp .ge 7, 3) := by decide +kernel
theorem dX10_isBetter_50 : decode cX10_isBetter 50 = .ok (.iconst 1, 1) := by decide +kernel
theorem dX10_isBetter_51 : decode cX10_isBetter 51 = .ok (.goto 4, 3) := by decide +kernel
theorem dX10_isBetter_54 : decode cX10_isBetter 54 = .ok (.iconst 0, 1) := by decide +kernel
theorem dX10_isBetter_55 : decode cX10_isBetter 55 = .ok (.ireturn, 1) := by decide +kernel
theorem dX11_init_0 : decode cX11_init 0 = .ok (.aload_n 0, 1) := by decide +kernel
theorem dX11_init_1 : decode cX11_init 1 = .ok (.invokespecial 1, 3) := by decide +kernel
theorem dX11_init_4 : decode cX11_init 4 = .ok (.aload_n 0, 1) := by decide +kernel
theorem dX11_init_5 : decode cX11_init 5 = .ok (.sipush 300, 3) := by decide +kernel
theorem dX11_init_8 : decode cX11_init 8 = .ok (.newarray .int, 2) := by decide +kernel
theorem dX11_init_10 : decode cX11_init 10 = .ok (.putfield 7, 3) := by decide +kernel
theorem dX11_init_13 : decode cX11_init 13 = .ok (.aload_n 0, 1) := by decide +kernel
theorem dX11_init_14 : decode cX11_init 14 = .ok (.sipush 1400, 3) := by decide +kernel
theorem dX11_init_17 : decode cX11_init 17 = .ok (.newarray .int, 2) := by decide +kernel
theorem dX11_init_19 : decode cX11_init 19 = .ok (.putfield 13, 3) := by decide +kernel
theorem dX11_init_22 : decode cX11_init 22 = .ok (.aload_n 0, 1) := by decide +kernel
theorem dX11_init_23 : decode cX11_init 23 = .ok (.iconst 4, 1) := by decide +kernel
theorem dX11_init_24 : decode cX11_init 24 = .ok (.newarray .int, 2) := by decide +kernel
theorem dX11_init_26 : decode cX11_init 26 = .ok (.putfield 16, 3) := by decide +kernel
theorem dX11_init_29 : decode cX11_init 29 = .ok (.aload_n 0, 1) := by decide +kernel
theorem dX11_init_30 : decode cX11_init 30 = .ok (.iconst 4, 1) := by decide +kernel
theorem dX11_init_31 : decode cX11_init 31 = .ok (.newarray .int, 2) := by decide +kernel
theorem dX11_init_33 : decode cX11_init 33 = .ok (.putfield 19, 3) := by decide +kernel
theorem dX11_init_36 : decode cX11_init 36 = .ok (.aload_n 0, 1) := by decide +kernel
theorem dX11_init_37 : decode cX11_init 37 = .ok (.iconst 4, 1) := by decide +kernel
theorem dX11_init_38 : decode cX11_init 38 = .ok (.newarray .int, 2) := by decide +kernel
theorem dX11_init_40 : decode cX11_init 40 = .ok (.putfield 22, 3) := by decide +kernel
theorem dX11_init_43 : decode cX11_init 43 = .ok (.aload_n 0, 1) := by decide +kernel
theorem dX11_init_44 : decode cX11_init 44 = .ok (.sipush 300, 3) := by decide +kernel
theorem dX11_init_47 : decode cX11_init 47 = .ok (.newarray .int, 2) := by decide +kernel
theorem dX11_init_49 : decode cX11_init 49 = .ok (.putfield 25, 3) := by decide +kernel
theorem dX11_init_52 : decode cX11_init 52 = .ok (.aload_n 0, 1) := by decide +kernel
theorem dX11_init_53 : decode cX11_init 53 = .ok (.sipush 300, 3) := by decide +kernel
theorem dX11_init_56 : decode cX11_init 56 = .ok (.newarray .int, 2) := by decide +kernel
theorem dX11_init_58 : decode cX11_init 58 = .ok (.putfield 28, 3) := by decide +kernel
theorem dX11_init_61 : decode cX11_init 61 = .ok (.aload_n 0, 1) := by decide +kernel
theorem dX11_init_62 : decode cX11_init 62 = .ok (.sipush 1400, 3) := by decide +kernel
theorem dX11_init_65 : decode cX11_init 65 = .ok (.newarray .int, 2) := by decide +kernel
theorem dX11_init_67 : decode cX11_init 67 = .ok (.putfield 31, 3) := by decide +kernel
theorem dX11_init_70 : decode cX11_init 70 = .ok (.aload_n 0, 1) := by decide +kernel
theorem dX11_init_71 : decode cX11_init 71 = .ok (.sipush 256, 3) := by decide +kernel
theorem dX11_init_74 : decode cX11_init 74 = .ok (.newarray .int, 2) := by decide +kernel
theorem dX11_init_76 : decode cX11_init 76 = .ok (.putfield 34, 3) := by decide +kernel
theorem dX11_init_79 : decode cX11_init 79 = .ok (.aload_n 0, 1) := by decide +kernel
theorem dX11_init_80 : decode cX11_init 80 = .ok (.sipush 256, 3) := by decide +kernel
theorem dX11_init_83 : decode cX11_init 83 = .ok (.newarray .int, 2) := by decide +kernel
theorem dX11_init_85 : decode cX11_init 85 = .ok (.putfield 37, 3) := by decide +kernel
theorem dX11_init_88 : decode cX11_init 88 = .ok (.aload_n 0, 1) := by decide +kernel
theorem dX11_init_89 : decode cX11_init 89 = .ok (.sipush 256, 3) := by decide +kernel
theorem dX11_init_92 : decode cX11_init 92 = .ok (.newarray .int, 2) := by decide +kernel
theorem dX11_init_94 : decode cX11_init 94 = .ok (.putfield 40, 3) := by decide +kernel
theorem dX11_init_97 : decode cX11_init 97 = .ok (.aload_n 0, 1) := by decide +kernel
theorem dX11_init_98 : decode cX11_init 98 = .ok (.sipush 512, 3) := by decide +kernel
theorem dX11_init_101 : decode cX11_init 101 = .ok (.newarray .int, 2) := by decide +kernel
theorem dX11_init_103 : decode cX11_init 103 = .ok (.putfield 43, 3) := by decide +kernel
theorem dX11_init_106 : decode cX11_init 106 = .ok (.aload_n 0, 1) := by decide +kernel
theorem dX11_init_107 : decode cX11_init 107 = .ok (.sipush 512, 3) := by decide +kernel
theorem dX11_init_110 : decode cX11_init 110 = .ok (.newarray .int, 2) := by decide +kernel
theorem dX11_init_112 : decode cX11_init 112 = .ok (.putfield 46, 3) := by decide +kernel
theorem dX11_init_115 : decode cX11_init 115 = .ok (.aload_n 0, 1) := by decide +kernel
theorem dX11_init_116 : decode cX11_init 116 = .ok (.sipush 256, 3) := by decide +kernel
theorem dX11_init_119 : decode cX11_init 119 = .ok (.newarray .int, 2) := by decide +kernel
theorem dX11_init_121 : decode cX11_init 121 = .ok (.putfield 49, 3) := by decide +kernel
theorem dX11_init_124 : decode cX11_init 124 = .ok (.aload_n 0, 1) := by decide +kernel
theorem dX11_init_125 : decode cX11_init 125 = .ok (.bipush 6, 2) := by decide +kernel
theorem dX11_init_127 : decode cX11_init 127 = .ok (.newarray .int, 2) := by decide +kernel
theorem dX11_init_129 : decode cX11_init 129 = .ok (.putfield 52, 3) := by decide +kernel
theorem dX11_init_132 : decode cX11_init 132 = .ok (.aload_n 0, 1) := by decide +kernel
theorem dX11_init_133 : decode cX11_init 133 = .ok (.bipush 64, 2) := by decide +kernel
theorem dX11_init_135 : decode cX11_init 135 = .ok (.newarray .int, 2) := by decide +kernel
theorem dX11_init_137 : decode cX11_init 137 = .ok (.putfield 55, 3) := by decide +kernel
theorem dX11_init_140 : decode cX11_init 140 = .ok (.aload_n 0, 1) := by decide +kernel
theorem dX11_init_141 : decode cX11_init 141 = .ok (.bipush (-3), 2) := by decide +kernel
theorem dX11_init_143 : decode cX11_init 143 = .ok (.putfield 58, 3) := by decide +kernel
theorem dX11_init_146 : decode cX11_init 146 = .ok (.aload_n 0, 1) := by decide +kernel
theorem dX11_init_147 : decode cX11_init 147 = .ok (.invokevirtual 62, 3) := by decide +kernel
theorem dX11_init_150 : decode cX11_init 150 = .ok (.return_, 1) := by decide +kernel
theorem dX11_thrown_0 : decode cX11_thrown 0 = .ok (.aload_n 0, 1) := by decide +kernel
theorem dX11_thrown_1 : decode cX11_thrown 1 = .ok (.getfield 65, 3) := by decide +kernel
theorem dX11_thrown_4 : decode cX11_thrown 4 = .ok (.ireturn, 1) := by decide +kernel
theorem dX11_in_0 : decode cX11_in 0 = .ok (.iload_n 0, 1) := by decide +kernel
theorem dX11_in_1 : decode cX11_in 1 = .ok (.iload_n 1, 1) := by decide +kernel
theorem dX11_in_2 : decode cX11_in 2 = .ok (.if_icmp .lt 12, 3) := by decide +kernel
theorem dX11_in_5 : decode cX11_in 5 = .ok (.iload_n 0, 1) := by decide +kernel
theorem dX11_in_6 : decode cX11_in 6 = .ok (.iload_n 2, 1) := by decide +kernel
theorem dX11_in_7 : decode cX11_in 7 = .ok (.if_icmp .gt 7, 3) := by decide +kernel
theorem dX11_in_10 : decode cX11_in 10 = .ok (.iconst 1, 1) := by decide +kernel
theorem dX11_in_11 : decode cX11_in 11 = .ok (.goto 4, 3) := by decide +kernel
theorem dX11_in_14 : decode cX11_in 14 = .ok (.iconst 0, 1) := by decide +kernel
theorem dX11_in_15 : decode cX11_in 15 = .ok (.ireturn, 1) := by decide +kernel
theorem dX11_lose_0 : decode cX11_lose 0 = .ok (.aload_n 0, 1) := by decide +kernel
theorem dX11_lose_1 : decode cX11_lose 1 = .ok (.iconst 0, 1) := by decide +kernel
theorem dX11_lose_2 : decode cX11_lose 2 = .ok (.putfield 68, 3) := by decide +kernel
theorem dX11_lose_5 : decode cX11_lose 5 = .ok (.iconst 0, 1) := by decide +kernel
theorem dX11_lose_6 : decode cX11_lose 6 = .ok (.istore_n 1, 1) := by decide +kernel
theorem dX11_lose_7 : decode cX11_lose 7 = .ok (.iload_n 1, 1) := by decide +kernel
theorem dX11_lose_8 : decode cX11_lose 8 = .ok (.bipush 64, 2) := by decide +kernel
theorem dX11_lose_10 : decode cX11_lose 10 = .ok (.if_icmp .ge 17, 3) := by decide +kernel
theorem dX11_lose_13 : decode cX11_lose 13 = .ok (.aload_n 0, 1) := by decide +kernel
theorem dX11_lose_14 : decode cX11_lose 14 = .ok (.getfield 55, 3) := by decide +kernel
theorem dX11_lose_17 : decode cX11_lose 17 = .ok (.iload_n 1, 1) := by decide +kernel
theorem dX11_lose_18 : decode cX11_lose 18 = .ok (.bipush (-3), 2) := by decide +kernel
theorem dX11_lose_20 : decode cX11_lose 20 = .ok (.iastore, 1) := by decide +kernel
theorem dX11_lose_21 : decode cX11_lose 21 = .ok (.iinc 1 1, 3) := by decide +kernel
theorem dX11_lose_24 : decode cX11_lose 24 = .ok (.goto (-17), 3) := by decide +kernel
theorem dX11_lose_27 : decode cX11_lose 27 = .ok (.return_, 1) := by decide +kernel
theorem dX11_clear_0 : decode cX11_clear 0 = .ok (.aload_n 0, 1) := by decide +kernel
theorem dX11_clear_1 : decode cX11_clear 1 = .ok (.iconst 0, 1) := by decide +kernel
theorem dX11_clear_2 : decode cX11_clear 2 = .ok (.putfield 65, 3) := by decide +kernel
theorem dX11_clear_5 : decode cX11_clear 5 = .ok (.aload_n 0, 1) := by decide +kernel
theorem dX11_clear_6 : decode cX11_clear 6 = .ok (.getfield 72, 3) := by decide +kernel
theorem dX11_clear_9 : decode cX11_clear 9 = .ok (.istore_n 1, 1) := by decide +kernel
theorem dX11_clear_10 : decode cX11_clear 10 = .ok (.aload_n 0, 1) := by decide +kernel
theorem dX11_clear_11 : decode cX11_clear 11 = .ok (.iconst 0, 1) := by decide +kernel
theorem dX11_clear_12 : decode cX11_clear 12 = .ok (.putfield 72, 3) := by decide +kernel
theorem dX11_clear_15 : decode cX11_clear 15 = .ok (.iload_n 1, 1) := by decide +kernel
theorem dX11_clear_16 : decode cX11_clear 16 = .ok (.ireturn, 1) := by decide +kernel
theorem dX11_add_0 : decode cX11_add 0 = .ok (.aload_n 0, 1) := by decide +kernel
theorem dX11_add_1 : decode cX11_add 1 = .ok (.iconst 0, 1) := by decide +kernel
theorem dX11_add_2 : decode cX11_add 2 = .ok (.putfield 65, 3) := by decide +kernel
theorem dX11_add_5 : decode cX11_add 5 = .ok (.iload_n 1, 1) := by decide +kernel
theorem dX11_add_6 : decode cX11_add 6 = .ok (.iconst 0, 1) := by decide +kernel
theorem dX11_add_7 : decode cX11_add 7 = .ok (.sipush 255, 3) := by decide +kernel
theorem dX11_add_10 : decode cX11_add 10 = .ok (.invokestatic 75, 3) := by decide +kernel
theorem dX11_add_13 : decode cX11_add 13 = .ok (.ifCond .ne 5, 3) := by decide +kernel
theorem dX11_add_16 : decode cX11_add 16 = .ok (.iconst (-1), 1) := by decide +kernel
theorem dX11_add_17 : decode cX11_add 17 = .ok (.ireturn, 1) := by decide +kernel
theorem dX11_add_18 : decode cX11_add 18 = .ok (.aload_n 0, 1) := by decide +kernel
theorem dX11_add_19 : decode cX11_add 19 = .ok (.getfield 72, 3) := by decide +kernel
theorem dX11_add_22 : decode cX11_add 22 = .ok (.sipush 300, 3) := by decide +kernel
theorem dX11_add_25 : decode cX11_add 25 = .ok (.if_icmp .ne 6, 3) := by decide +kernel
theorem dX11_add_28 : decode cX11_add 28 = .ok (.bipush (-2), 2) := by decide +kernel
theorem dX11_add_30 : decode cX11_add 30 = .ok (.ireturn, 1) := by decide +kernel
theorem dX11_add_31 : decode cX11_add 31 = .ok (.aload_n 0, 1) := by decide +kernel
theorem dX11_add_32 : decode cX11_add 32 = .ok (.getfield 7, 3) := by decide +kernel
theorem dX11_add_35 : decode cX11_add 35 = .ok (.aload_n 0, 1) := by decide +kernel
theorem dX11_add_36 : decode cX11_add 36 = .ok (.getfield 72, 3) := by decide +kernel
theorem dX11_add_39 : decode cX11_add 39 = .ok (.iload_n 1, 1) := by decide +kernel
theorem dX11_add_40 : decode cX11_add 40 = .ok (.iastore, 1) := by decide +kernel
theorem dX11_add_41 : decode cX11_add 41 = .ok (.aload_n 0, 1) := by decide +kernel
theorem dX11_add_42 : decode cX11_add 42 = .ok (.dup, 1) := by decide +kernel
theorem dX11_add_43 : decode cX11_add 43 = .ok (.getfield 72, 3) := by decide +kernel
theorem dX11_add_46 : decode cX11_add 46 = .ok (.iconst 1, 1) := by decide +kernel
theorem dX11_add_47 : decode cX11_add 47 = .ok (.iadd, 1) := by decide +kernel
theorem dX11_add_48 : decode cX11_add 48 = .ok (.putfield 72, 3) := by decide +kernel
theorem dX11_add_51 : decode cX11_add 51 = .ok (.aload_n 0, 1) := by decide +kernel
theorem dX11_add_52 : decode cX11_add 52 = .ok (.getfield 72, 3) := by decide +kernel
theorem dX11_add_55 : decode cX11_add 55 = .ok (.ireturn, 1) := by decide +kernel
theorem dX11_fill_0 : decode cX11_fill 0 = .ok (.aload_n 0, 1) := by decide +kernel
theorem dX11_fill_1 : decode cX11_fill 1 = .ok (.iconst 0, 1) := by decide +kernel
theorem dX11_fill_2 : decode cX11_fill 2 = .ok (.putfield 65, 3) := by decide +kernel
theorem dX11_fill_5 : decode cX11_fill 5 = .ok (.iload_n 1, 1) := by decide +kernel
theorem dX11_fill_6 : decode cX11_fill 6 = .ok (.iconst 1, 1) := by decide +kernel
theorem dX11_fill_7 : decode cX11_fill 7 = .ok (.sipush 300, 3) := by decide +kernel
theorem dX11_fill_10 : decode cX11_fill 10 = .ok (.invokestatic 75, 3) := by decide +kernel
theorem dX11_fill_13 : decode cX11_fill 13 = .ok (.ifCond .eq 12, 3) := by decide +kernel
theorem dX11_fill_16 : decode cX11_fill 16 = .ok (.iload_n 3, 1) := by decide +kernel
theorem dX11_fill_17 : decode cX11_fill 17 = .ok (.iconst 0, 1) := by decide +kernel
theorem dX11_fill_18 : decode cX11_fill 18 = .ok (.iconst 3, 1) := by decide +kernel
theorem dX11_fill_19 : decode cX11_fill 19 = .ok (.invokestatic 75, 3) := by decide +kernel
theorem dX11_fill_22 : decode cX11_fill 22 = .ok (.ifCond .ne 5, 3) := by decide +kernel
theorem dX11_fill_25 : decode cX11_fill 25 = .ok (.iconst (-1), 1) := by decide +kernel
theorem dX11_fill_26 : decode cX11_fill 26 = .ok (.ireturn, 1) := by decide +kernel
theorem dX11_fill_27 : decode cX11_fill 27 = .ok (.aload_n 0, 1) := by decide +kernel
theorem dX11_fill_28 : decode cX11_fill 28 = .ok (.getfield 72, 3) := by decide +kernel
theorem dX11_fill_31 : decode cX11_fill 31 = .ok (.iload_n 1, 1) := by decide +kernel
theorem dX11_fill_32 : decode cX11_fill 32 = .ok (.iadd, 1) := by decide +kernel
theorem dX11_fill_33 : decode cX11_fill 33 = .ok (.sipush 300, 3) := by decide +kernel
theorem dX11_fill_36 : decode cX11_fill 36 = .ok (.if_icmp .le 6, 3) := by decide +kernel
theorem dX11_fill_39 : decode cX11_fill 39 = .ok (.bipush (-2), 2) := by decide +kernel
theorem dX11_fill_41 : decode cX11_fill 41 = .ok (.ireturn, 1) := by decide +kernel
theorem dX11_fill_42 : decode cX11_fill 42 = .ok (.iload_n 2, 1) := by decide +kernel
theorem dX11_fill_43 : decode cX11_fill 43 = .ok (.istore 4, 2) := by decide +kernel
theorem dX11_fill_45 : decode cX11_fill 45 = .ok (.iconst 0, 1) := by decide +kernel
theorem dX11_fill_46 : decode cX11_fill 46 = .ok (.istore 5, 2) := by decide +kernel
theorem dX11_fill_48 : decode cX11_fill 48 = .ok (.aload_n 0, 1) := by decide +kernel
theorem dX11_fill_49 : decode cX11_fill 49 = .ok (.getfield 72, 3) := by decide +kernel
theorem dX11_fill_52 : decode cX11_fill 52 = .ok (.iload_n 1, 1) := by decide +kernel
theorem dX11_fill_53 : decode cX11_fill 53 = .ok (.iadd, 1) := by decide +kernel
theorem dX11_fill_54 : decode cX11_fill 54 = .ok (.istore 6, 2) := by decide +kernel
theorem dX11_fill_56 : decode cX11_fill 56 = .ok (.aload_n 0, 1) := by decide +kernel
theorem dX11_fill_57 : decode cX11_fill 57 = .ok (.getfield 72, 3) := by decide +kernel
theorem dX11_fill_60 : decode cX11_fill 60 = .ok (.iload 6, 2) := by decide +kernel
theorem dX11_fill_62 : decode cX11_fill 62 = .ok (.if_icmp .ge 146, 3) := by decide +kernel
theorem dX11_fill_65 : decode cX11_fill 65 = .ok (.iload 4, 2) := by decide +kernel
theorem dX11_fill_67 : decode cX11_fill 67 = .ok (.ldc 79, 2) := by decide +kernel
theorem dX11_fill_69 : decode cX11_fill 69 = .ok (.imul, 1) := by decide +kernel
theorem dX11_fill_70 : decode cX11_fill 70 = .ok (.sipush 12345, 3) := by decide +kernel
theorem dX11_fill_73 : decode cX11_fill 73 = .ok (.iadd, 1) := by decide +kernel
theorem dX11_fill_74 : decode cX11_fill 74 = .ok (.istore 4, 2) := by decide +kernel
theorem dX11_fill_76 : decode cX11_fill 76 = .ok (.iload 4, 2) := by decide +kernel
theorem dX11_fill_78 : decode cX11_fill 78 = .ok (.bipush 16, 2) := by decide +kernel
theorem dX11_fill_80 : decode cX11_fill 80 = .ok (.iushr, 1) := by decide +kernel
theorem dX11_fill_81 : decode cX11_fill 81 = .ok (.istore 7, 2) := by decide +kernel
theorem dX11_fill_83 : decode cX11_fill 83 = .ok (.iload_n 3, 1) := by decide +kernel
theorem dX11_fill_84 : decode cX11_fill 84 = .ok (.ifCond .ne 12, 3) := by decide +kernel
theorem dX11_fill_87 : decode cX11_fill 87 = .ok (.iload 7, 2) := by decide +kernel
theorem dX11_fill_89 : decode cX11_fill 89 = .ok (.sipush 256, 3) := by decide +kernel
theorem dX11_fill_92 : decode cX11_fill 92 = .ok (.irem, 1) := by decide +kernel
theorem dX11_fill_93 : decode cX11_fill 93 = .ok (.goto 39, 3) := by decide +kernel
theorem dX11_fill_96 : decode cX11_fill 96 = .ok (.iload_n 3, 1) := by decide +kernel
theorem dX11_fill_97 : decode cX11_fill 97 = .ok (.iconst 1, 1) := by decide +kernel
theorem dX11_fill_98 : decode cX11_fill 98 = .ok (.if_icmp .ne 10, 3) := by decide +kernel
theorem dX11_fill_101 : decode cX11_fill 101 = .ok (.iload 7, 2) := by decide +kernel
theorem dX11_fill_103 : decode cX11_fill 103 = .ok (.iconst 4, 1) := by decide +kernel
theorem dX11_fill_104 : decode cX11_fill 104 = .ok (.irem, 1) := by decide +kernel
theorem dX11_fill_105 : decode cX11_fill 105 = .ok (.goto 27, 3) := by decide +kernel
theorem dX11_fill_108 : decode cX11_fill 108 = .ok (.iload_n 3, 1) := by decide +kernel
theorem dX11_fill_109 : decode cX11_fill 109 = .ok (.iconst 2, 1) := by decide +kernel
theorem dX11_fill_110 : decode cX11_fill 110 = .ok (.if_icmp .ne 11, 3) := by decide +kernel
theorem dX11_fill_113 : decode cX11_fill 113 = .ok (.iload 7, 2) := by decide +kernel
theorem dX11_fill_115 : decode cX11_fill 115 = .ok (.bipush 8, 2) := by decide +kernel
theorem dX11_fill_117 : decode cX11_fill 117 = .ok (.irem, 1) := by decide +kernel
theorem dX11_fill_118 : decode cX11_fill 118 = .ok (.goto 14, 3) := by decide +kernel
theorem dX11_fill_121 : decode cX11_fill 121 = .ok (.iload 5, 2) := by decide +kernel
theorem dX11_fill_123 : decode cX11_fill 123 = .ok (.iload 7, 2) := by decide +kernel
theorem dX11_fill_125 : decode cX11_fill 125 = .ok (.iconst 4, 1) := by decide +kernel
theorem dX11_fill_126 : decode cX11_fill 126 = .ok (.irem, 1) := by decide +kernel
theorem dX11_fill_127 : decode cX11_fill 127 = .ok (.iadd, 1) := by decide +kernel
theorem dX11_fill_128 : decode cX11_fill 128 = .ok (.sipush 256, 3) := by decide +kernel
theorem dX11_fill_131 : decode cX11_fill 131 = .ok (.irem, 1) := by decide +kernel
theorem dX11_fill_132 : decode cX11_fill 132 = .ok (.istore 8, 2) := by decide +kernel
theorem dX11_fill_134 : decode cX11_fill 134 = .ok (.iload_n 3, 1) := by decide +kernel
theorem dX11_fill_135 : decode cX11_fill 135 = .ok (.iconst 2, 1) := by decide +kernel
theorem dX11_fill_136 : decode cX11_fill 136 = .ok (.if_icmp .ne 16, 3) := by decide +kernel
theorem dX11_fill_139 : decode cX11_fill 139 = .ok (.iconst 1, 1) := by decide +kernel
theorem dX11_fill_140 : decode cX11_fill 140 = .ok (.iload 7, 2) := by decide +kernel
theorem dX11_fill_142 : decode cX11_fill 142 = .ok (.bipush 8, 2) := by decide +kernel
theorem dX11_fill_144 : decode cX11_fill 144 = .ok (.idiv, 1) := by decide +kernel
theorem dX11_fill_145 : decode cX11_fill 145 = .ok (.bipush 8, 2) := by decide +kernel
theorem dX11_fill_147 : decode cX11_fill 147 = .ok (.irem, 1) := by decide +kernel
theorem dX11_fill_148 : decode cX11_fill 148 = .ok (.iadd, 1) := by decide +kernel
theorem dX11_fill_149 : decode cX11_fill 149 = .ok (.goto 4, 3) := by decide +kernel
theorem dX11_fill_152 : decode cX11_fill 152 = .ok (.iconst 1, 1) := by decide +kernel
theorem dX11_fill_153 : decode cX11_fill 153 = .ok (.istore 9, 2) := by decide +kernel
theorem dX11_fill_155 : decode cX11_fill 155 = .ok (.iconst 0, 1) := by decide +kernel
theorem dX11_fill_156 : decode cX11_fill 156 = .ok (.istore 10, 2) := by decide +kernel
theorem dX11_fill_158 : decode cX11_fill 158 = .ok (.iload 10, 2) := by decide +kernel
theorem dX11_fill_160 : decode cX11_fill 160 = .ok (.iload 9, 2) := by decide +kernel
theorem dX11_fill_162 : decode cX11_fill 162 = .ok (.if_icmp .ge 39, 3) := by decide +kernel
theorem dX11_fill_165 : decode cX11_fill 165 = .ok (.aload_n 0, 1) := by decide +kernel
theorem dX11_fill_166 : decode cX11_fill 166 = .ok (.getfield 72, 3) := by decide +kernel
theorem dX11_fill_169 : decode cX11_fill 169 = .ok (.iload 6, 2) := by decide +kernel
theorem dX11_fill_171 : decode cX11_fill 171 = .ok (.if_icmp .ge 30, 3) := by decide +kernel
theorem dX11_fill_174 : decode cX11_fill 174 = .ok (.aload_n 0, 1) := by decide +kernel
theorem dX11_fill_175 : decode cX11_fill 175 = .ok (.getfield 7, 3) := by decide +kernel
theorem dX11_fill_178 : decode cX11_fill 178 = .ok (.aload_n 0, 1) := by decide +kernel
theorem dX11_fill_179 : decode cX11_fill 179 = .ok (.getfield 72, 3) := by decide +kernel
theorem dX11_fill_182 : decode cX11_fill 182 = .ok (.iload 8, 2) := by decide +kernel
theorem dX11_fill_184 : decode cX11_fill 184 = .ok (.iastore, 1) := by decide +kernel
theorem dX11_fill_185 : decode cX11_fill 185 = .ok (.aload_n 0, 1) := by decide +kernel
theorem dX11_fill_186 : decode cX11_fill 186 = .ok (.dup, 1) := by decide +kernel
theorem dX11_fill_187 : decode cX11_fill 187 = .ok (.getfield 72, 3) := by decide +kernel
theorem dX11_fill_190 : decode cX11_fill 190 = .ok (.iconst 1, 1) := by decide +kernel
theorem dX11_fill_191 : decode cX11_fill 191 = .ok (.iadd, 1) := by decide +kernel
theorem dX11_fill_192 : decode cX11_fill 192 = .ok (.putfield 72, 3) := by decide +kernel
theorem dX11_fill_195 : decode cX11_fill 195 = .ok (.iinc 10 1, 3) := by decide +kernel
theorem dX11_fill_198 : decode cX11_fill 198 = .ok (.goto (-40), 3) := by decide +kernel
theorem dX11_fill_201 : decode cX11_fill 201 = .ok (.iload 8, 2) := by decide +kernel
theorem dX11_fill_203 : decode cX11_fill 203 = .ok (.istore 5, 2) := by decide +kernel
theorem dX11_fill_205 : decode cX11_fill 205 = .ok (.goto (-149), 3) := by decide +kernel
theorem dX11_fill_208 : decode cX11_fill 208 = .ok (.aload_n 0, 1) := by decide +kernel
theorem dX11_fill_209 : decode cX11_fill 209 = .ok (.getfield 72, 3) := by decide +kernel
theorem dX11_fill_212 : decode cX11_fill 212 = .ok (.ireturn, 1) := by decide +kernel
theorem dX11_size_0 : decode cX11_size 0 = .ok (.aload_n 0, 1) := by decide +kernel
theorem dX11_size_1 : decode cX11_size 1 = .ok (.iconst 0, 1) := by decide +kernel
theorem dX11_size_2 : decode cX11_size 2 = .ok (.putfield 65, 3) := by decide +kernel
theorem dX11_size_5 : decode cX11_size 5 = .ok (.iload_n 1, 1) := by decide +kernel
theorem dX11_size_6 : decode cX11_size 6 = .ok (.ifCond .ne 10, 3) := by decide +kernel
theorem dX11_size_9 : decode cX11_size 9 = .ok (.aload_n 0, 1) := by decide +kernel
theorem dX11_size_10 : decode cX11_size 10 = .ok (.getfield 72, 3) := by decide +kernel
theorem dX11_size_13 : decode cX11_size 13 = .ok (.goto 16, 3) := by decide +kernel
theorem dX11_size_16 : decode cX11_size 16 = .ok (.iload_n 1, 1) := by decide +kernel
theorem dX11_size_17 : decode cX11_size 17 = .ok (.iconst 1, 1) := by decide +kernel
theorem dX11_size_18 : decode cX11_size 18 = .ok (.if_icmp .ne 10, 3) := by decide +kernel
theorem dX11_size_21 : decode cX11_size 21 = .ok (.aload_n 0, 1) := by decide +kernel
theorem dX11_size_22 : decode cX11_size 22 = .ok (.getfield 80, 3) := by decide +kernel
theorem dX11_size_25 : decode cX11_size 25 = .ok (.goto 4, 3) := by decide +kernel
theorem dX11_size_28 : decode cX11_size 28 = .ok (.iconst (-1), 1) := by decide +kernel
theorem dX11_size_29 : decode cX11_size 29 = .ok (.ireturn, 1) := by decide +kernel
theorem dX11_octet_0 : decode cX11_octet 0 = .ok (.aload_n 0, 1) := by decide +kernel
theorem dX11_octet_1 : decode cX11_octet 1 = .ok (.iconst 0, 1) := by decide +kernel
theorem dX11_octet_2 : decode cX11_octet 2 = .ok (.putfield 65, 3) := by decide +kernel
theorem dX11_octet_5 : decode cX11_octet 5 = .ok (.iload_n 1, 1) := by decide +kernel
theorem dX11_octet_6 : decode cX11_octet 6 = .ok (.ifCond .ne 24, 3) := by decide +kernel
theorem dX11_octet_9 : decode cX11_octet 9 = .ok (.iload_n 2, 1) := by decide +kernel
theorem dX11_octet_10 : decode cX11_octet 10 = .ok (.iconst 0, 1) := by decide +kernel
theorem dX11_octet_11 : decode cX11_octet 11 = .ok (.aload_n 0, 1) := by decide +kernel
theorem dX11_octet_12 : decode cX11_octet 12 = .ok (.getfield 72, 3) := by decide +kernel
theorem dX11_octet_15 : decode cX11_octet 15 = .ok (.iconst 1, 1) := by decide +kernel
theorem dX11_octet_16 : decode cX11_octet 16 = .ok (.isub, 1) := by decide +kernel
theorem dX11_octet_17 : decode cX11_octet 17 = .ok (.invokestatic 75, 3) := by decide +kernel
theorem dX11_octet_20 : decode cX11_octet 20 = .ok (.ifCond .eq 10, 3) := by decide +kernel
theorem dX11_octet_23 : decode cX11_octet 23 = .ok (.aload_n 0, 1) := by decide +kernel
theorem dX11_octet_24 : decode cX11_octet 24 = .ok (.getfield 7, 3) := by decide +kernel
theorem dX11_octet_27 : decode cX11_octet 27 = .ok (.iload_n 2, 1) := by decide +kernel
theorem dX11_octet_28 : decode cX11_octet 28 = .ok (.iaload, 1) := by decide +kernel
theorem dX11_octet_29 : decode cX11_octet 29 = .ok (.ireturn, 1) := by decide +kernel
theorem dX11_octet_30 : decode cX11_octet 30 = .ok (.iload_n 1, 1) := by decide +kernel
theorem dX11_octet_31 : decode cX11_octet 31 = .ok (.iconst 1, 1) := by decide +kernel
theorem dX11_octet_32 : decode cX11_octet 32 = .ok (.if_icmp .ne 26, 3) := by decide +kernel
theorem dX11_octet_35 : decode cX11_octet 35 = .ok (.iload_n 2, 1) := by decide +kernel
theorem dX11_octet_36 : decode cX11_octet 36 = .ok (.iconst 0, 1) := by decide +kernel
theorem dX11_octet_37 : decode cX11_octet 37 = .ok (.aload_n 0, 1) := by decide +kernel
theorem dX11_octet_38 : decode cX11_octet 38 = .ok (.getfield 80, 3) := by decide +kernel
theorem dX11_octet_41 : decode cX11_octet 41 = .ok (.iconst 1, 1) := by decide +kernel
theorem dX11_octet_42 : decode cX11_octet 42 = .ok (.isub, 1) := by decide +kernel
theorem dX11_octet_43 : decode cX11_octet 43 = .ok (.invokestatic 75, 3) := by decide +kernel
theorem dX11_octet_46 : decode cX11_octet 46 = .ok (.ifCond .eq 12, 3) := by decide +kernel
theorem dX11_octet_49 : decode cX11_octet 49 = .ok (.aload_n 0, 1) := by decide +kernel
theorem dX11_octet_50 : decode cX11_octet 50 = .ok (.getfield 13, 3) := by decide +kernel
theorem dX11_octet_53 : decode cX11_octet 53 = .ok (.iload_n 2, 1) := by decide +kernel
theorem dX11_octet_54 : decode cX11_octet 54 = .ok (.iaload, 1) := by decide +kernel
theorem dX11_octet_55 : decode cX11_octet 55 = .ok (.goto 4, 3) := by decide +kernel
theorem dX11_octet_58 : decode cX11_octet 58 = .ok (.iconst (-1), 1) := by decide +kernel
theorem dX11_octet_59 : decode cX11_octet 59 = .ok (.ireturn, 1) := by decide +kernel
theorem dX11_isFilter_0 : decode cX11_isFilter 0 = .ok (.iload_n 0, 1) := by decide +kernel
theorem dX11_isFilter_1 : decode cX11_isFilter 1 = .ok (.iconst 1, 1) := by decide +kernel
theorem dX11_isFilter_2 : decode cX11_isFilter 2 = .ok (.if_icmp .ne 13, 3) := by decide +kernel
theorem dX11_isFilter_5 : decode cX11_isFilter 5 = .ok (.iload_n 1, 1) := by decide +kernel
theorem dX11_isFilter_6 : decode cX11_isFilter 6 = .ok (.iconst 1, 1) := by decide +kernel
theorem dX11_isFilter_7 : decode cX11_isFilter 7 = .ok (.bipush 8, 2) := by decide +kernel
theorem dX11_isFilter_9 : decode cX11_isFilter 9 = .ok (.invokestatic 75, 3) := by decide +kernel
theorem dX11_isFilter_12 : decode cX11_isFilter 12 = .ok (.goto 56, 3) := by decide +kernel
theorem dX11_isFilter_15 : decode cX11_isFilter 15 = .ok (.iload_n 0, 1) := by decide +kernel
theorem dX11_isFilter_16 : decode cX11_isFilter 16 = .ok (.iconst 2, 1) := by decide +kernel
theorem dX11_isFilter_17 : decode cX11_isFilter 17 = .ok (.if_icmp .ne 15, 3) := by decide +kernel
theorem dX11_isFilter_20 : decode cX11_isFilter 20 = .ok (.iload_n 1, 1) := by decide +kernel
theorem dX11_isFilter_21 : decode cX11_isFilter 21 = .ok (.ifCond .ne 7, 3) := by decide +kernel
theorem dX11_isFilter_24 : decode cX11_isFilter 24 = .ok (.iconst 1, 1) := by decide +kernel
theorem dX11_isFilter_25 : decode cX11_isFilter 25 = .ok (.goto 43, 3) := by decide +kernel
theorem dX11_isFilter_28 : decode cX11_isFilter 28 = .ok (.iconst 0, 1) := by decide +kernel
theorem dX11_isFilter_29 : decode cX11_isFilter 29 = .ok (.goto 39, 3) := by decide +kernel
theorem dX11_isFilter_32 : decode cX11_isFilter 32 = .ok (.iload_n 0, 1) := by decide +kernel
theorem dX11_isFilter_33 : decode cX11_isFilter 33 = .ok (.iconst 3, 1) := by decide +kernel
theorem dX11_isFilter_34 : decode cX11_isFilter 34 = .ok (.if_icmp .ne 13, 3) := by decide +kernel
theorem dX11_isFilter_37 : decode cX11_isFilter 37 = .ok (.iload_n 1, 1) := by decide +kernel
theorem dX11_isFilter_38 : decode cX11_isFilter 38 = .ok (.iconst 2, 1) := by decide +kernel
theorem dX11_isFilter_39 : decode cX11_isFilter 39 = .ok (.bipush 8, 2) := by decide +kernel
theorem dX11_isFilter_41 : decode cX11_isFilter 41 = .ok (.invokestatic 75, 3) := by decide +kernel
theorem dX11_isFilter_44 : decode cX11_isFilter 44 = .ok (.goto 24, 3) := by decide +kernel
theorem dX11_isFilter_47 : decode cX11_isFilter 47 = .ok (.iload_n 0, 1) := by decide +kernel
theorem dX11_isFilter_48 : decode cX11_isFilter 48 = .ok (.iconst 4, 1) := by decide +kernel
theorem dX11_isFilter_49 : decode cX11_isFilter 49 = .ok (.if_icmp .ne 18, 3) := by decide +kernel
theorem dX11_isFilter_52 : decode cX11_isFilter 52 = .ok (.iload_n 1, 1) := by decide +kernel
theorem dX11_isFilter_53 : decode cX11_isFilter 53 = .ok (.iconst 1, 1) := by decide +kernel
theorem dX11_isFilter_54 : decode cX11_isFilter 54 = .ok (.sipush 255, 3) := by decide +kernel
theorem dX11_isFilter_57 : decode cX11_isFilter 57 = .ok (.invokestatic 75, 3) := by decide +kernel
theorem dX11_isFilter_60 : decode cX11_isFilter 60 = .ok (.ifCond .eq 7, 3) := by decide +kernel
theorem dX11_isFilter_63 : decode cX11_isFilter 63 = .ok (.iconst 1, 1) := by decide +kernel
theorem dX11_isFilter_64 : decode cX11_isFilter 64 = .ok (.goto 4, 3) := by decide +kernel
theorem dX11_isFilter_67 : decode cX11_isFilter 67 = .ok (.iconst 0, 1) := by decide +kernel
theorem dX11_isFilter_68 : decode cX11_isFilter 68 = .ok (.ireturn, 1) := by decide +kernel
theorem dX11_filter_0 : decode cX11_filter 0 = .ok (.aload_n 0, 1) := by decide +kernel
theorem dX11_filter_1 : decode cX11_filter 1 = .ok (.iconst 0, 1) := by decide +kernel
theorem dX11_filter_2 : decode cX11_filter 2 = .ok (.putfield 65, 3) := by decide +kernel
theorem dX11_filter_5 : decode cX11_filter 5 = .ok (.iload_n 1, 1) := by decide +kernel
theorem dX11_filter_6 : decode cX11_filter 6 = .ok (.iload_n 2, 1) := by decide +kernel
theorem dX11_filter_7 : decode cX11_filter 7 = .ok (.invokestatic 83, 3) := by decide +kernel
theorem dX11_filter_10 : decode cX11_filter 10 = .ok (.ifCond .ne 5, 3) := by decide +kernel
theorem dX11_filter_13 : decode cX11_filter 13 = .ok (.iconst (-1), 1) := by decide +kernel
theorem dX11_filter_14 : decode cX11_filter 14 = .ok (.ireturn, 1) := by decide +kernel
theorem dX11_filter_15 : decode cX11_filter 15 = .ok (.aload_n 0, 1) := by decide +kernel
theorem dX11_filter_16 : decode cX11_filter 16 = .ok (.getfield 87, 3) := by decide +kernel
theorem dX11_filter_19 : decode cX11_filter 19 = .ok (.iconst 4, 1) := by decide +kernel
theorem dX11_filter_20 : decode cX11_filter 20 = .ok (.if_icmp .ne 6, 3) := by decide +kernel
theorem dX11_filter_23 : decode cX11_filter 23 = .ok (.bipush (-2), 2) := by decide +kernel
theorem dX11_filter_25 : decode cX11_filter 25 = .ok (.ireturn, 1) := by decide +kernel
theorem dX11_filter_26 : decode cX11_filter 26 = .ok (.aload_n 0, 1) := by decide +kernel
theorem dX11_filter_27 : decode cX11_filter 27 = .ok (.getfield 16, 3) := by decide +kernel
theorem dX11_filter_30 : decode cX11_filter 30 = .ok (.aload_n 0, 1) := by decide +kernel
theorem dX11_filter_31 : decode cX11_filter 31 = .ok (.getfield 87, 3) := by decide +kernel
theorem dX11_filter_34 : decode cX11_filter 34 = .ok (.iload_n 1, 1) := by decide +kernel
theorem dX11_filter_35 : decode cX11_filter 35 = .ok (.iastore, 1) := by decide +kernel
theorem dX11_filter_36 : decode cX11_filter 36 = .ok (.aload_n 0, 1) := by decide +kernel
theorem dX11_filter_37 : decode cX11_filter 37 = .ok (.getfield 19, 3) := by decide +kernel
theorem dX11_filter_40 : decode cX11_filter 40 = .ok (.aload_n 0, 1) := by decide +kernel
theorem dX11_filter_41 : decode cX11_filter 41 = .ok (.getfield 87, 3) := by decide +kernel
theorem dX11_filter_44 : decode cX11_filter 44 = .ok (.iload_n 2, 1) := by decide +kernel
theorem dX11_filter_45 : decode cX11_filter 45 = .ok (.iastore, 1) := by decide +kernel
theorem dX11_filter_46 : decode cX11_filter 46 = .ok (.aload_n 0, 1) := by decide +kernel
theorem dX11_filter_47 : decode cX11_filter 47 = .ok (.dup, 1) := by decide +kernel
theorem dX11_filter_48 : decode cX11_filter 48 = .ok (.getfield 87, 3) := by decide +kernel
theorem dX11_filter_51 : decode cX11_filter 51 = .ok (.iconst 1, 1) := by decide +kernel
theorem dX11_filter_52 : decode cX11_filter 52 = .ok (.iadd, 1) := by decide +kernel
theorem dX11_filter_53 : decode cX11_filter 53 = .ok (.putfield 87, 3) := by decide +kernel
theorem dX11_filter_56 : decode cX11_filter 56 = .ok (.aload_n 0, 1) := by decide +kernel
theorem dX11_filter_57 : decode cX11_filter 57 = .ok (.invokevirtual 62, 3) := by decide +kernel
theorem dX11_filter_60 : decode cX11_filter 60 = .ok (.aload_n 0, 1) := by decide +kernel
theorem dX11_filter_61 : decode cX11_filter 61 = .ok (.getfield 87, 3) := by decide +kernel
theorem dX11_filter_64 : decode cX11_filter 64 = .ok (.iconst 1, 1) := by decide +kernel
theorem dX11_filter_65 : decode cX11_filter 65 = .ok (.isub, 1) := by decide +kernel
theorem dX11_filter_66 : decode cX11_filter 66 = .ok (.ireturn, 1) := by decide +kernel
theorem dX11_packer_0 : decode cX11_packer 0 = .ok (.aload_n 0, 1) := by decide +kernel
theorem dX11_packer_1 : decode cX11_packer 1 = .ok (.iconst 0, 1) := by decide +kernel
theorem dX11_packer_2 : decode cX11_packer 2 = .ok (.putfield 65, 3) := by decide +kernel
theorem dX11_packer_5 : decode cX11_packer 5 = .ok (.iload_n 1, 1) := by decide +kernel
theorem dX11_packer_6 : decode cX11_packer 6 = .ok (.iconst 1, 1) := by decide +kernel
theorem dX11_packer_7 : decode cX11_packer 7 = .ok (.iconst 4, 1) := by decide +kernel
theorem dX11_packer_8 : decode cX11_packer 8 = .ok (.invokestatic 75, 3) := by decide +kernel
theorem dX11_packer_11 : decode cX11_packer 11 = .ok (.ifCond .ne 5, 3) := by decide +kernel
theorem dX11_packer_14 : decode cX11_packer 14 = .ok (.iconst (-1), 1) := by decide +kernel
theorem dX11_packer_15 : decode cX11_packer 15 = .ok (.ireturn, 1) := by decide +kernel
theorem dX11_packer_16 : decode cX11_packer 16 = .ok (.iconst 0, 1) := by decide +kernel
theorem dX11_packer_17 : decode cX11_packer 17 = .ok (.istore_n 2, 1) := by decide +kernel
theorem dX11_packer_18 : decode cX11_packer 18 = .ok (.iload_n 2, 1) := by decide +kernel
theorem dX11_packer_19 : decode cX11_packer 19 = .ok (.aload_n 0, 1) := by decide +kernel
theorem dX11_packer_20 : decode cX11_packer 20 = .ok (.getfield 90, 3) := by decide +kernel
theorem dX11_packer_23 : decode cX11_packer 23 = .ok (.if_icmp .ge 22, 3) := by decide +kernel
theorem dX11_packer_26 : decode cX11_packer 26 = .ok (.aload_n 0, 1) := by decide +kernel
theorem dX11_packer_27 : decode cX11_packer 27 = .ok (.getfield 22, 3) := by decide +kernel
theorem dX11_packer_30 : decode cX11_packer 30 = .ok (.iload_n 2, 1) := by decide +kernel
theorem dX11_packer_31 : decode cX11_packer 31 = .ok (.iaload, 1) := by decide +kernel
theorem dX11_packer_32 : decode cX11_packer 32 = .ok (.iload_n 1, 1) := by decide +kernel
theorem dX11_packer_33 : decode cX11_packer 33 = .ok (.if_icmp .ne 6, 3) := by decide +kernel
theorem dX11_packer_36 : decode cX11_packer 36 = .ok (.bipush (-3), 2) := by decide +kernel
theorem dX11_packer_38 : decode cX11_packer 38 = .ok (.ireturn, 1) := by decide +kernel
theorem dX11_packer_39 : decode cX11_packer 39 = .ok (.iinc 2 1, 3) := by decide +kernel
theorem dX11_packer_42 : decode cX11_packer 42 = .ok (.goto (-24), 3) := by decide +kernel
theorem dX11_packer_45 : decode cX11_packer 45 = .ok (.aload_n 0, 1) := by decide +kernel
theorem dX11_packer_46 : decode cX11_packer 46 = .ok (.getfield 22, 3) := by decide +kernel
theorem dX11_packer_49 : decode cX11_packer 49 = .ok (.aload_n 0, 1) := by decide +kernel
theorem dX11_packer_50 : decode cX11_packer 50 = .ok (.getfield 90, 3) := by decide +kernel
theorem dX11_packer_53 : decode cX11_packer 53 = .ok (.iload_n 1, 1) := by decide +kernel
theorem dX11_packer_54 : decode cX11_packer 54 = .ok (.iastore, 1) := by decide +kernel
theorem dX11_packer_55 : decode cX11_packer 55 = .ok (.aload_n 0, 1) := by decide +kernel
theorem dX11_packer_56 : decode cX11_packer 56 = .ok (.dup, 1) := by decide +kernel
theorem dX11_packer_57 : decode cX11_packer 57 = .ok (.getfield 90, 3) := by decide +kernel
theorem dX11_packer_60 : decode cX11_packer 60 = .ok (.iconst 1, 1) := by decide +kernel
theorem dX11_packer_61 : decode cX11_packer 61 = .ok (.iadd, 1) := by decide +kernel
theorem dX11_packer_62 : decode cX11_packer 62 = .ok (.putfield 90, 3) := by decide +kernel
theorem dX11_packer_65 : decode cX11_packer 65 = .ok (.aload_n 0, 1) := by decide +kernel
theorem dX11_packer_66 : decode cX11_packer 66 = .ok (.invokevirtual 62, 3) := by decide +kernel
theorem dX11_packer_69 : decode cX11_packer 69 = .ok (.aload_n 0, 1) := by decide +kernel
theorem dX11_packer_70 : decode cX11_packer 70 = .ok (.getfield 90, 3) := by decide +kernel
theorem dX11_packer_73 : decode cX11_packer 73 = .ok (.ireturn, 1) := by decide +kernel
theorem dX11_chains_0 : decode cX11_chains 0 = .ok (.aload_n 0, 1) := by decide +kernel
theorem dX11_chains_1 : decode cX11_chains 1 = .ok (.iconst 0, 1) := by decide +kernel
theorem dX11_chains_2 : decode cX11_chains 2 = .ok (.putfield 65, 3) := by decide +kernel
theorem dX11_chains_5 : decode cX11_chains 5 = .ok (.iconst 1, 1) := by decide +kernel
theorem dX11_chains_6 : decode cX11_chains 6 = .ok (.aload_n 0, 1) := by decide +kernel
theorem dX11_chains_7 : decode cX11_chains 7 = .ok (.getfield 87, 3) := by decide +kernel
theorem dX11_chains_10 : decode cX11_chains 10 = .ok (.iadd, 1) := by decide +kernel
theorem dX11_chains_11 : decode cX11_chains 11 = .ok (.aload_n 0, 1) := by decide +kernel
theorem dX11_chains_12 : decode cX11_chains 12 = .ok (.getfield 87, 3) := by decide +kernel
theorem dX11_chains_15 : decode cX11_chains 15 = .ok (.aload_n 0, 1) := by decide +kernel
theorem dX11_chains_16 : decode cX11_chains 16 = .ok (.getfield 87, 3) := by decide +kernel
theorem dX11_chains_19 : decode cX11_chains 19 = .ok (.iconst 1, 1) := by decide +kernel
theorem dX11_chains_20 : decode cX11_chains 20 = .ok (.isub, 1) := by decide +kernel
theorem dX11_chains_21 : decode cX11_chains 21 = .ok (.imul, 1) := by decide +kernel
theorem dX11_chains_22 : decode cX11_chains 22 = .ok (.iadd, 1) := by decide +kernel
theorem dX11_chains_23 : decode cX11_chains 23 = .ok (.iconst 1, 1) := by decide +kernel
theorem dX11_chains_24 : decode cX11_chains 24 = .ok (.aload_n 0, 1) := by decide +kernel
theorem dX11_chains_25 : decode cX11_chains 25 = .ok (.getfield 90, 3) := by decide +kernel
theorem dX11_chains_28 : decode cX11_chains 28 = .ok (.iadd, 1) := by decide +kernel
theorem dX11_chains_29 : decode cX11_chains 29 = .ok (.imul, 1) := by decide +kernel
theorem dX11_chains_30 : decode cX11_chains 30 = .ok (.ireturn, 1) := by decide +kernel
theorem dX11_forget_0 : decode cX11_forget 0 = .ok (.aload_n 0, 1) := by decide +kernel
theorem dX11_forget_1 : decode cX11_forget 1 = .ok (.invokevirtual 93, 3) := by decide +kernel
theorem dX11_forget_4 : decode cX11_forget 4 = .ok (.istore_n 1, 1) := by decide +kernel
theorem dX11_forget_5 : decode cX11_forget 5 = .ok (.aload_n 0, 1) := by decide +kernel
theorem dX11_forget_6 : decode cX11_forget 6 = .ok (.iconst 0, 1) := by decide +kernel
theorem dX11_forget_7 : decode cX11_forget 7 = .ok (.putfield 87, 3) := by decide +kernel
theorem dX11_forget_10 : decode cX11_forget 10 = .ok (.aload_n 0, 1) := by decide +kernel
theorem dX11_forget_11 : decode cX11_forget 11 = .ok (.iconst 0, 1) := by decide +kernel
theorem dX11_forget_12 : decode cX11_forget 12 = .ok (.putfield 90, 3) := by decide +kernel
theorem dX11_forget_15 : decode cX11_forget 15 = .ok (.aload_n 0, 1) := by decide +kernel
theorem dX11_forget_16 : decode cX11_forget 16 = .ok (.invokevirtual 62, 3) := by decide +kernel
theorem dX11_forget_19 : decode cX11_forget 19 = .ok (.iload_n 1, 1) := by decide +kernel
theorem dX11_forget_20 : decode cX11_forget 20 = .ok (.ireturn, 1) := by decide +kernel
theorem dX11_part_0 : decode cX11_part 0 = .ok (.iload_n 1, 1) := by decide +kernel
theorem dX11_part_1 : decode cX11_part 1 = .ok (.iconst 1, 1) := by decide +kernel
theorem dX11_part_2 : decode cX11_part 2 = .ok (.aload_n 0, 1) := by decide +kernel
theorem dX11_part_3 : decode cX11_part 3 = .ok (.getfield 90, 3) := by decide +kernel
theorem dX11_part_6 : decode cX11_part 6 = .ok (.iadd, 1) := by decide +kernel
theorem dX11_part_7 : decode cX11_part 7 = .ok (.irem, 1) := by decide +kernel
theorem dX11_part_8 : decode cX11_part 8 = .ok (.istore_n 2, 1) := by decide +kernel
theorem dX11_part_9 : decode cX11_part 9 = .ok (.iload_n 1, 1) := by decide +kernel
theorem dX11_part_10 : decode cX11_part 10 = .ok (.iconst 1, 1) := by decide +kernel
theorem dX11_part_11 : decode cX11_part 11 = .ok (.aload_n 0, 1) := by decide +kernel
theorem dX11_part_12 : decode cX11_part 12 = .ok (.getfield 90, 3) := by decide +kernel
theorem dX11_part_15 : decode cX11_part 15 = .ok (.iadd, 1) := by decide +kernel
theorem dX11_part_16 : decode cX11_part 16 = .ok (.idiv, 1) := by decide +kernel
theorem dX11_part_17 : decode cX11_part 17 = .ok (.istore_n 3, 1) := by decide +kernel
theorem dX11_part_18 : decode cX11_part 18 = .ok (.aload_n 0, 1) := by decide +kernel
theorem dX11_part_19 : decode cX11_part 19 = .ok (.iload_n 2, 1) := by decide +kernel
theorem dX11_part_20 : decode cX11_part 20 = .ok (.ifCond .ne 7, 3) := by decide +kernel
theorem dX11_part_23 : decode cX11_part 23 = .ok (.iconst 0, 1) := by decide +kernel
theorem dX11_part_24 : decode cX11_part 24 = .ok (.goto 11, 3) := by decide +kernel
theorem dX11_part_27 : decode cX11_part 27 = .ok (.aload_n 0, 1) := by decide +kernel
theorem dX11_part_28 : decode cX11_part 28 = .ok (.getfield 22, 3) := by decide +kernel
theorem dX11_part_31 : decode cX11_part 31 = .ok (.iload_n 2, 1) := by decide +kernel
theorem dX11_part_32 : decode cX11_part 32 = .ok (.iconst 1, 1) := by decide +kernel
theorem dX11_part_33 : decode cX11_part 33 = .ok (.isub, 1) := by decide +kernel
theorem dX11_part_34 : decode cX11_part 34 = .ok (.iaload, 1) := by decide +kernel
theorem dX11_part_35 : decode cX11_part 35 = .ok (.putfield 97, 3) := by decide +kernel
theorem dX11_part_38 : decode cX11_part 38 = .ok (.aload_n 0, 1) := by decide +kernel
theorem dX11_part_39 : decode cX11_part 39 = .ok (.bipush (-3), 2) := by decide +kernel
theorem dX11_part_41 : decode cX11_part 41 = .ok (.putfield 100, 3) := by decide +kernel
theorem dX11_part_44 : decode cX11_part 44 = .ok (.aload_n 0, 1) := by decide +kernel
theorem dX11_part_45 : decode cX11_part 45 = .ok (.bipush (-3), 2) := by decide +kernel
theorem dX11_part_47 : decode cX11_part 47 = .ok (.putfield 103, 3) := by decide +kernel
theorem dX11_part_50 : decode cX11_part 50 = .ok (.iload_n 3, 1) := by decide +kernel
theorem dX11_part_51 : decode cX11_part 51 = .ok (.aload_n 0, 1) := by decide +kernel
theorem dX11_part_52 : decode cX11_part 52 = .ok (.getfield 87, 3) := by decide +kernel
theorem dX11_part_55 : decode cX11_part 55 = .ok (.if_icmp .le 67, 3) := by decide +kernel
theorem dX11_part_58 : decode cX11_part 58 = .ok (.iload_n 3, 1) := by decide +kernel
theorem dX11_part_59 : decode cX11_part 59 = .ok (.aload_n 0, 1) := by decide +kernel
theorem dX11_part_60 : decode cX11_part 60 = .ok (.getfield 87, 3) := by decide +kernel
theorem dX11_part_63 : decode cX11_part 63 = .ok (.isub, 1) := by decide +kernel
theorem dX11_part_64 : decode cX11_part 64 = .ok (.iconst 1, 1) := by decide +kernel
theorem dX11_part_65 : decode cX11_part 65 = .ok (.isub, 1) := by decide +kernel
theorem dX11_part_66 : decode cX11_part 66 = .ok (.istore 4, 2) := by decide +kernel
theorem dX11_part_68 : decode cX11_part 68 = .ok (.aload_n 0, 1) := by decide +kernel
theorem dX11_part_69 : decode cX11_part 69 = .ok (.iload 4, 2) := by decide +kernel
theorem dX11_part_71 : decode cX11_part 71 = .ok (.aload_n 0, 1) := by decide +kernel
theorem dX11_part_72 : decode cX11_part 72 = .ok (.getfield 87, 3) := by decide +kernel
theorem dX11_part_75 : decode cX11_part 75 = .ok (.iconst 1, 1) := by decide +kernel
theorem dX11_part_76 : decode cX11_part 76 = .ok (.isub, 1) := by decide +kernel
theorem dX11_part_77 : decode cX11_part 77 = .ok (.idiv, 1) := by decide +kernel
theorem dX11_part_78 : decode cX11_part 78 = .ok (.putfield 100, 3) := by decide +kernel
theorem dX11_part_81 : decode cX11_part 81 = .ok (.aload_n 0, 1) := by decide +kernel
theorem dX11_part_82 : decode cX11_part 82 = .ok (.iload 4, 2) := by decide +kernel
theorem dX11_part_84 : decode cX11_part 84 = .ok (.aload_n 0, 1) := by decide +kernel
theorem dX11_part_85 : decode cX11_part 85 = .ok (.getfield 87, 3) := by decide +kernel
theorem dX11_part_88 : decode cX11_part 88 = .ok (.iconst 1, 1) := by decide +kernel
theorem dX11_part_89 : decode cX11_part 89 = .ok (.isub, 1) := by decide +kernel
theorem dX11_part_90 : decode cX11_part 90 = .ok (.irem, 1) := by decide +kernel
theorem dX11_part_91 : decode cX11_part 91 = .ok (.putfield 103, 3) := by decide +kernel
theorem dX11_part_94 : decode cX11_part 94 = .ok (.aload_n 0, 1) := by decide +kernel
theorem dX11_part_95 : decode cX11_part 95 = .ok (.dup, 1) := by decide +kernel
theorem dX11_part_96 : decode cX11_part 96 = .ok (.getfield 103, 3) := by decide +kernel
theorem dX11_part_99 : decode cX11_part 99 = .ok (.aload_n 0, 1) := by decide +kernel
theorem dX11_part_100 : decode cX11_part 100 = .ok (.getfield 103, 3) := by decide +kernel
theorem dX11_part_103 : decode cX11_part 103 = .ok (.aload_n 0, 1) := by decide +kernel
theorem dX11_part_104 : decode cX11_part 104 = .ok (.getfield 100, 3) := by decide +kernel
theorem dX11_part_107 : decode cX11_part 107 = .ok (.if_icmp .lt 7, 3) := by decide +kernel
theorem dX11_part_110 : decode cX11_part 110 = .ok (.iconst 1, 1) := by decide +kernel
theorem dX11_part_111 : decode cX11_part 111 = .ok (.goto 4, 3) := by decide +kernel
theorem dX11_part_114 : decode cX11_part 114 = .ok (.iconst 0, 1) := by decide +kernel
theorem dX11_part_115 : decode cX11_part 115 = .ok (.iadd, 1) := by decide +kernel
theorem dX11_part_116 : decode cX11_part 116 = .ok (.putfield 103, 3) := by decide +kernel
theorem dX11_part_119 : decode cX11_part 119 = .ok (.goto 14, 3) := by decide +kernel
theorem dX11_part_122 : decode cX11_part 122 = .ok (.iload_n 3, 1) := by decide +kernel
theorem dX11_part_123 : decode cX11_part 123 = .ok (.ifCond .le 10, 3) := by decide +kernel
theorem dX11_part_126 : decode cX11_part 126 = .ok (.aload_n 0, 1) := by decide +kernel
theorem dX11_part_127 : decode cX11_part 127 = .ok (.iload_n 3, 1) := by decide +kernel
theorem dX11_part_128 : decode cX11_part 128 = .ok (.iconst 1, 1) := by decide +kernel
theorem dX11_part_129 : decode cX11_part 129 = .ok (.isub, 1) := by decide +kernel
theorem dX11_part_130 : decode cX11_part 130 = .ok (.putfield 100, 3) := by decide +kernel
theorem dX11_part_133 : decode cX11_part 133 = .ok (.return_, 1) := by decide +kernel
theorem dX11_stepsOf_0 : decode cX11_stepsOf 0 = .ok (.aload_n 0, 1) := by decide +kernel
theorem dX11_stepsOf_1 : decode cX11_stepsOf 1 = .ok (.getfield 97, 3) := by decide +kernel
theorem dX11_stepsOf_4 : decode cX11_stepsOf 4 = .ok (.ifCond .ne 7, 3) := by decide +kernel
theorem dX11_stepsOf_7 : decode cX11_stepsOf 7 = .ok (.iconst 1, 1) := by decide +kernel
theorem dX11_stepsOf_8 : decode cX11_stepsOf 8 = .ok (.goto 29, 3) := by decide +kernel
theorem dX11_stepsOf_11 : decode cX11_stepsOf 11 = .ok (.aload_n 0, 1) := by decide +kernel
theorem dX11_stepsOf_12 : decode cX11_stepsOf 12 = .ok (.getfield 97, 3) := by decide +kernel
theorem dX11_stepsOf_15 : decode cX11_stepsOf 15 = .ok (.iconst 3, 1) := by decide +kernel
theorem dX11_stepsOf_16 : decode cX11_stepsOf 16 = .ok (.if_icmp .ge 7, 3) := by decide +kernel
theorem dX11_stepsOf_19 : decode cX11_stepsOf 19 = .ok (.iconst 2, 1) := by decide +kernel
theorem dX11_stepsOf_20 : decode cX11_stepsOf 20 = .ok (.goto 17, 3) := by decide +kernel
theorem dX11_stepsOf_23 : decode cX11_stepsOf 23 = .ok (.aload_n 0, 1) := by decide +kernel
theorem dX11_stepsOf_24 : decode cX11_stepsOf 24 = .ok (.getfield 97, 3) := by decide +kernel
theorem dX11_stepsOf_27 : decode cX11_stepsOf 27 = .ok (.iconst 3, 1) := by decide +kernel
theorem dX11_stepsOf_28 : decode cX11_stepsOf 28 = .ok (.if_icmp .ne 7, 3) := by decide +kernel
theorem dX11_stepsOf_31 : decode cX11_stepsOf 31 = .ok (.iconst 4, 1) := by decide +kernel
theorem dX11_stepsOf_32 : decode cX11_stepsOf 32 = .ok (.goto 5, 3) := by decide +kernel
theorem dX11_stepsOf_35 : decode cX11_stepsOf 35 = .ok (.bipush 64, 2) := by decide +kernel
theorem dX11_stepsOf_37 : decode cX11_stepsOf 37 = .ok (.istore_n 1, 1) := by decide +kernel
theorem dX11_stepsOf_38 : decode cX11_stepsOf 38 = .ok (.iload_n 1, 1) := by decide +kernel
theorem dX11_stepsOf_39 : decode cX11_stepsOf 39 = .ok (.aload_n 0, 1) := by decide +kernel
theorem dX11_stepsOf_40 : decode cX11_stepsOf 40 = .ok (.getfield 100, 3) := by decide +kernel
theorem dX11_stepsOf_43 : decode cX11_stepsOf 43 = .ok (.ifCond .ge 7, 3) := by decide +kernel
theorem dX11_stepsOf_46 : decode cX11_stepsOf 46 = .ok (.iconst 0, 1) := by decide +kernel
theorem dX11_stepsOf_47 : decode cX11_stepsOf 47 = .ok (.goto 22, 3) := by decide +kernel
theorem dX11_stepsOf_50 : decode cX11_stepsOf 50 = .ok (.aload_n 0, 1) := by decide +kernel
theorem dX11_stepsOf_51 : decode cX11_stepsOf 51 = .ok (.getfield 16, 3) := by decide +kernel
theorem dX11_stepsOf_54 : decode cX11_stepsOf 54 = .ok (.aload_n 0, 1) := by decide +kernel
theorem dX11_stepsOf_55 : decode cX11_stepsOf 55 = .ok (.getfield 100, 3) := by decide +kernel
theorem dX11_stepsOf_58 : decode cX11_stepsOf 58 = .ok (.iaload, 1) := by decide +kernel
theorem dX11_stepsOf_59 : decode cX11_stepsOf 59 = .ok (.iconst 2, 1) := by decide +kernel
theorem dX11_stepsOf_60 : decode cX11_stepsOf 60 = .ok (.if_icmp .ne 8, 3) := by decide +kernel
theorem dX11_stepsOf_63 : decode cX11_stepsOf 63 = .ok (.bipush 16, 2) := by decide +kernel
theorem dX11_stepsOf_65 : decode cX11_stepsOf 65 = .ok (.goto 4, 3) := by decide +kernel
theorem dX11_stepsOf_68 : decode cX11_stepsOf 68 = .ok (.iconst 1, 1) := by decide +kernel
theorem dX11_stepsOf_69 : decode cX11_stepsOf 69 = .ok (.iadd, 1) := by decide +kernel
theorem dX11_stepsOf_70 : decode cX11_stepsOf 70 = .ok (.istore_n 1, 1) := by decide +kernel
theorem dX11_stepsOf_71 : decode cX11_stepsOf 71 = .ok (.iload_n 1, 1) := by decide +kernel
theorem dX11_stepsOf_72 : decode cX11_stepsOf 72 = .ok (.aload_n 0, 1) := by decide +kernel
theorem dX11_stepsOf_73 : decode cX11_stepsOf 73 = .ok (.getfield 103, 3) := by decide +kernel
theorem dX11_stepsOf_76 : decode cX11_stepsOf 76 = .ok (.ifCond .ge 7, 3) := by decide +kernel
theorem dX11_stepsOf_79 : decode cX11_stepsOf 79 = .ok (.iconst 0, 1) := by decide +kernel
theorem dX11_stepsOf_80 : decode cX11_stepsOf 80 = .ok (.goto 22, 3) := by decide +kernel
theorem dX11_stepsOf_83 : decode cX11_stepsOf 83 = .ok (.aload_n 0, 1) := by decide +kernel
theorem dX11_stepsOf_84 : decode cX11_stepsOf 84 = .ok (.getfield 16, 3) := by decide +kernel
theorem dX11_stepsOf_87 : decode cX11_stepsOf 87 = .ok (.aload_n 0, 1) := by decide +kernel
theorem dX11_stepsOf_88 : decode cX11_stepsOf 88 = .ok (.getfield 103, 3) := by decide +kernel
theorem dX11_stepsOf_91 : decode cX11_stepsOf 91 = .ok (.iaload, 1) := by decide +kernel
theorem dX11_stepsOf_92 : decode cX11_stepsOf 92 = .ok (.iconst 2, 1) := by decide +kernel
theorem dX11_stepsOf_93 : decode cX11_stepsOf 93 = .ok (.if_icmp .ne 8, 3) := by decide +kernel
theorem dX11_stepsOf_96 : decode cX11_stepsOf 96 = .ok (.bipush 16, 2) := by decide +kernel
theorem dX11_stepsOf_98 : decode cX11_stepsOf 98 = .ok (.goto 4, 3) := by decide +kernel
theorem dX11_stepsOf_101 : decode cX11_stepsOf 101 = .ok (.iconst 1, 1) := by decide +kernel
theorem dX11_stepsOf_102 : decode cX11_stepsOf 102 = .ok (.iadd, 1) := by decide +kernel
theorem dX11_stepsOf_103 : decode cX11_stepsOf 103 = .ok (.ireturn, 1) := by decide +kernel
theorem dX11_memoryOf_0 : decode cX11_memoryOf 0 = .ok (.aload_n 0, 1) := by decide +kernel
theorem dX11_memoryOf_1 : decode cX11_memoryOf 1 = .ok (.getfield 97, 3) := by decide +kernel
theorem dX11_memoryOf_4 : decode cX11_memoryOf 4 = .ok (.iconst 2, 1) := by decide +kernel
theorem dX11_memoryOf_5 : decode cX11_memoryOf 5 = .ok (.if_icmp .ne 9, 3) := by decide +kernel
theorem dX11_memoryOf_8 : decode cX11_memoryOf 8 = .ok (.sipush 256, 3) := by decide +kernel
theorem dX11_memoryOf_11 : decode cX11_memoryOf 11 = .ok (.goto 32, 3) := by decide +kernel
theorem dX11_memoryOf_14 : decode cX11_memoryOf 14 = .ok (.aload_n 0, 1) := by decide +kernel
theorem dX11_memoryOf_15 : decode cX11_memoryOf 15 = .ok (.getfield 97, 3) := by decide +kernel
theorem dX11_memoryOf_18 : decode cX11_memoryOf 18 = .ok (.iconst 3, 1) := by decide +kernel
theorem dX11_memoryOf_19 : decode cX11_memoryOf 19 = .ok (.if_icmp .ne 9, 3) := by decide +kernel
theorem dX11_memoryOf_22 : decode cX11_memoryOf 22 = .ok (.sipush 1024, 3) := by decide +kernel
theorem dX11_memoryOf_25 : decode cX11_memoryOf 25 = .ok (.goto 18, 3) := by decide +kernel
theorem dX11_memoryOf_28 : decode cX11_memoryOf 28 = .ok (.aload_n 0, 1) := by decide +kernel
theorem dX11_memoryOf_29 : decode cX11_memoryOf 29 = .ok (.getfield 97, 3) := by decide +kernel
theorem dX11_memoryOf_32 : decode cX11_memoryOf 32 = .ok (.iconst 4, 1) := by decide +kernel
theorem dX11_memoryOf_33 : decode cX11_memoryOf 33 = .ok (.if_icmp .ne 9, 3) := by decide +kernel
theorem dX11_memoryOf_36 : decode cX11_memoryOf 36 = .ok (.sipush 512, 3) := by decide +kernel
theorem dX11_memoryOf_39 : decode cX11_memoryOf 39 = .ok (.goto 4, 3) := by decide +kernel
theorem dX11_memoryOf_42 : decode cX11_memoryOf 42 = .ok (.iconst 0, 1) := by decide +kernel
theorem dX11_memoryOf_43 : decode cX11_memoryOf 43 = .ok (.istore_n 1, 1) := by decide +kernel
theorem dX11_memoryOf_44 : decode cX11_memoryOf 44 = .ok (.aload_n 0, 1) := by decide +kernel
theorem dX11_memoryOf_45 : decode cX11_memoryOf 45 = .ok (.getfield 100, 3) := by decide +kernel
theorem dX11_memoryOf_48 : decode cX11_memoryOf 48 = .ok (.ifCond .lt 16, 3) := by decide +kernel
theorem dX11_memoryOf_51 : decode cX11_memoryOf 51 = .ok (.aload_n 0, 1) := by decide +kernel
theorem dX11_memoryOf_52 : decode cX11_memoryOf 52 = .ok (.getfield 16, 3) := by decide +kernel
theorem dX11_memoryOf_55 : decode cX11_memoryOf 55 = .ok (.aload_n 0, 1) := by decide +kernel
theorem dX11_memoryOf_56 : decode cX11_memoryOf 56 = .ok (.getfield 100, 3) := by decide +kernel
theorem dX11_memoryOf_59 : decode cX11_memoryOf 59 = .ok (.iaload, 1) := by decide +kernel
theorem dX11_memoryOf_60 : decode cX11_memoryOf 60 = .ok (.iconst 2, 1) := by decide +kernel
theorem dX11_memoryOf_61 : decode cX11_memoryOf 61 = .ok (.if_icmp .eq 23, 3) := by decide +kernel
theorem dX11_memoryOf_64 : decode cX11_memoryOf 64 = .ok (.aload_n 0, 1) := by decide +kernel
theorem dX11_memoryOf_65 : decode cX11_memoryOf 65 = .ok (.getfield 103, 3) := by decide +kernel
theorem dX11_memoryOf_68 : decode cX11_memoryOf 68 = .ok (.ifCond .lt 20, 3) := by decide +kernel
theorem dX11_memoryOf_71 : decode cX11_memoryOf 71 = .ok (.aload_n 0, 1) := by decide +kernel
theorem dX11_memoryOf_72 : decode cX11_memoryOf 72 = .ok (.getfield 16, 3) := by decide +kernel
theorem dX11_memoryOf_75 : decode cX11_memoryOf 75 = .ok (.aload_n 0, 1) := by decide +kernel
theorem dX11_memoryOf_76 : decode cX11_memoryOf 76 = .ok (.getfield 103, 3) := by decide +kernel
theorem dX11_memoryOf_79 : decode cX11_memoryOf 79 = .ok (.iaload, 1) := by decide +kernel
theorem dX11_memoryOf_80 : decode cX11_memoryOf 80 = .ok (.iconst 2, 1) := by decide +kernel
theorem dX11_memoryOf_81 : decode cX11_memoryOf 81 = .ok (.if_icmp .ne 7, 3) := by decide +kernel
theorem dX11_memoryOf_84 : decode cX11_memoryOf 84 = .ok (.iconst 1, 1) := by decide +kernel
theorem dX11_memoryOf_85 : decode cX11_memoryOf 85 = .ok (.goto 4, 3) := by decide +kernel
theorem dX11_memoryOf_88 : decode cX11_memoryOf 88 = .ok (.iconst 0, 1) := by decide +kernel
theorem dX11_memoryOf_89 : decode cX11_memoryOf 89 = .ok (.istore_n 2, 1) := by decide +kernel
theorem dX11_memoryOf_90 : decode cX11_memoryOf 90 = .ok (.iload_n 2, 1) := by decide +kernel
theorem dX11_memoryOf_91 : decode cX11_memoryOf 91 = .ok (.ifCond .eq 16, 3) := by decide +kernel
theorem dX11_memoryOf_94 : decode cX11_memoryOf 94 = .ok (.iload_n 1, 1) := by decide +kernel
theorem dX11_memoryOf_95 : decode cX11_memoryOf 95 = .ok (.sipush 256, 3) := by decide +kernel
theorem dX11_memoryOf_98 : decode cX11_memoryOf 98 = .ok (.if_icmp .ge 9, 3) := by decide +kernel
theorem dX11_memoryOf_101 : decode cX11_memoryOf 101 = .ok (.sipush 256, 3) := by decide +kernel
theorem dX11_memoryOf_104 : decode cX11_memoryOf 104 = .ok (.goto 4, 3) := by decide +kernel
theorem dX11_memoryOf_107 : decode cX11_memoryOf 107 = .ok (.iload_n 1, 1) := by decide +kernel
theorem dX11_memoryOf_108 : decode cX11_memoryOf 108 = .ok (.ireturn, 1) := by decide +kernel
theorem dX11_beginList_0 : decode cX11_beginList 0 = .ok (.iconst 0, 1) := by decide +kernel
theorem dX11_beginList_1 : decode cX11_beginList 1 = .ok (.istore_n 1, 1) := by decide +kernel
theorem dX11_beginList_2 : decode cX11_beginList 2 = .ok (.iload_n 1, 1) := by decide +kernel
theorem dX11_beginList_3 : decode cX11_beginList 3 = .ok (.sipush 256, 3) := by decide +kernel
theorem dX11_beginList_6 : decode cX11_beginList 6 = .ok (.if_icmp .ge 16, 3) := by decide +kernel
theorem dX11_beginList_9 : decode cX11_beginList 9 = .ok (.aload_n 0, 1) := by decide +kernel
theorem dX11_beginList_10 : decode cX11_beginList 10 = .ok (.getfield 49, 3) := by decide +kernel
theorem dX11_beginList_13 : decode cX11_beginList 13 = .ok (.iload_n 1, 1) := by decide +kernel
theorem dX11_beginList_14 : decode cX11_beginList 14 = .ok (.iload_n 1, 1) := by decide +kernel
theorem dX11_beginList_15 : decode cX11_beginList 15 = .ok (.iastore, 1) := by decide +kernel
theorem dX11_beginList_16 : decode cX11_beginList 16 = .ok (.iinc 1 1, 3) := by decide +kernel
theorem dX11_beginList_19 : decode cX11_beginList 19 = .ok (.goto (-17), 3) := by decide +kernel
theorem dX11_beginList_22 : decode cX11_beginList 22 = .ok (.return_, 1) := by decide +kernel
theorem dX11_front_0 : decode cX11_front 0 = .ok (.aload_n 0, 1) := by decide +kernel
theorem dX11_front_1 : decode cX11_front 1 = .ok (.getfield 49, 3) := by decide +kernel
theorem dX11_front_4 : decode cX11_front 4 = .ok (.iload_n 1, 1) := by decide +kernel
theorem dX11_front_5 : decode cX11_front 5 = .ok (.iaload, 1) := by decide +kernel
theorem dX11_front_6 : decode cX11_front 6 = .ok (.istore_n 2, 1) := by decide +kernel
theorem dX11_front_7 : decode cX11_front 7 = .ok (.iload_n 1, 1) := by decide +kernel
theorem dX11_front_8 : decode cX11_front 8 = .ok (.istore_n 3, 1) := by decide +kernel
theorem dX11_front_9 : decode cX11_front 9 = .ok (.iload_n 3, 1) := by decide +kernel
theorem dX11_front_10 : decode cX11_front 10 = .ok (.ifCond .le 23, 3) := by decide +kernel
theorem dX11_front_13 : decode cX11_front 13 = .ok (.aload_n 0, 1) := by decide +kernel
theorem dX11_front_14 : decode cX11_front 14 = .ok (.getfield 49, 3) := by decide +kernel
theorem dX11_front_17 : decode cX11_front 17 = .ok (.iload_n 3, 1) := by decide +kernel
theorem dX11_front_18 : decode cX11_front 18 = .ok (.aload_n 0, 1) := by decide +kernel
theorem dX11_front_19 : decode cX11_front 19 = .ok (.getfield 49, 3) := by decide +kernel
theorem dX11_front_22 : decode cX11_front 22 = .ok (.iload_n 3, 1) := by decide +kernel
theorem dX11_front_23 : decode cX11_front 23 = .ok (.iconst 1, 1) := by decide +kernel
theorem dX11_front_24 : decode cX11_front 24 = .ok (.isub, 1) := by decide +kernel
theorem dX11_front_25 : decode cX11_front 25 = .ok (.iaload, 1) := by decide +kernel
theorem dX11_front_26 : decode cX11_front 26 = .ok (.iastore, 1) := by decide +kernel
theorem dX11_front_27 : decode cX11_front 27 = .ok (.iinc 3 (-1), 3) := by decide +kernel
theorem dX11_front_30 : decode cX11_front 30 = .ok (.goto (-21), 3) := by decide +kernel
theorem dX11_front_33 : decode cX11_front 33 = .ok (.aload_n 0, 1) := by decide +kernel
theorem dX11_front_34 : decode cX11_front 34 = .ok (.getfield 49, 3) := by decide +kernel
theorem dX11_front_37 : decode cX11_front 37 = .ok (.iconst 0, 1) := by decide +kernel
theorem dX11_front_38 : decode cX11_front 38 = .ok (.iload_n 2, 1) := by decide +kernel
theorem dX11_front_39 : decode cX11_front 39 = .ok (.iastore, 1) := by decide +kernel
theorem dX11_front_40 : decode cX11_front 40 = .ok (.return_, 1) := by decide +kernel
theorem dX11_placeOf_0 : decode cX11_placeOf 0 = .ok (.iconst 0, 1) := by decide +kernel
theorem dX11_placeOf_1 : decode cX11_placeOf 1 = .ok (.istore_n 2, 1) := by decide +kernel
theorem dX11_placeOf_2 : decode cX11_placeOf 2 = .ok (.aload_n 0, 1) := by decide +kernel
theorem dX11_placeOf_3 : decode cX11_placeOf 3 = .ok (.getfield 49, 3) := by decide +kernel
theorem dX11_placeOf_6 : decode cX11_placeOf 6 = .ok (.iload_n 2, 1) := by decide +kernel
theorem dX11_placeOf_7 : decode cX11_placeOf 7 = .ok (.iaload, 1) := by decide +kernel
theorem dX11_placeOf_8 : decode cX11_placeOf 8 = .ok (.iload_n 1, 1) := by decide +kernel
theorem dX11_placeOf_9 : decode cX11_placeOf 9 = .ok (.if_icmp .eq 9, 3) := by decide +kernel
theorem dX11_placeOf_12 : decode cX11_placeOf 12 = .ok (.iinc 2 1, 3) := by decide +kernel
theorem dX11_placeOf_15 : decode cX11_placeOf 15 = .ok (.goto (-13), 3) := by decide +kernel
theorem dX11_placeOf_18 : decode cX11_placeOf 18 = .ok (.iload_n 2, 1) := by decide +kernel
theorem dX11_placeOf_19 : decode cX11_placeOf 19 = .ok (.ireturn, 1) := by decide +kernel
theorem dX11_apply_0 : decode cX11_apply 0 = .ok (.aload_n 0, 1) := by decide +kernel
theorem dX11_apply_1 : decode cX11_apply 1 = .ok (.invokevirtual 106, 3) := by decide +kernel
theorem dX11_apply_4 : decode cX11_apply 4 = .ok (.iconst 0, 1) := by decide +kernel
theorem dX11_apply_5 : decode cX11_apply 5 = .ok (.istore 5, 2) := by decide +kernel
theorem dX11_apply_7 : decode cX11_apply 7 = .ok (.iconst 0, 1) := by decide +kernel
theorem dX11_apply_8 : decode cX11_apply 8 = .ok (.istore 6, 2) := by decide +kernel
theorem dX11_apply_10 : decode cX11_apply 10 = .ok (.iconst 0, 1) := by decide +kernel
theorem dX11_apply_11 : decode cX11_apply 11 = .ok (.istore 7, 2) := by decide +kernel
theorem dX11_apply_13 : decode cX11_apply 13 = .ok (.iload 7, 2) := by decide +kernel
theorem dX11_apply_15 : decode cX11_apply 15 = .ok (.iload_n 3, 1) := by decide +kernel
theorem dX11_apply_16 : decode cX11_apply 16 = .ok (.if_icmp .ge 238, 3) := by decide +kernel
theorem dX11_apply_19 : decode cX11_apply 19 = .ok (.iload_n 1, 1) := by decide +kernel
theorem dX11_apply_20 : decode cX11_apply 20 = .ok (.iconst 1, 1) := by decide +kernel
theorem dX11_apply_21 : decode cX11_apply 21 = .ok (.if_icmp .ne 79, 3) := by decide +kernel
theorem dX11_apply_24 : decode cX11_apply 24 = .ok (.iload 7, 2) := by decide +kernel
theorem dX11_apply_26 : decode cX11_apply 26 = .ok (.iload_n 2, 1) := by decide +kernel
theorem dX11_apply_27 : decode cX11_apply 27 = .ok (.if_icmp .ge 7, 3) := by decide +kernel
theorem dX11_apply_30 : decode cX11_apply 30 = .ok (.iconst 0, 1) := by decide +kernel
theorem dX11_apply_31 : decode cX11_apply 31 = .ok (.goto 29, 3) := by decide +kernel
theorem dX11_apply_34 : decode cX11_apply 34 = .ok (.iload 4, 2) := by decide +kernel
theorem dX11_apply_36 : decode cX11_apply 36 = .ok (.ifCond .eq 15, 3) := by decide +kernel
theorem dX11_apply_39 : decode cX11_apply 39 = .ok (.aload_n 0, 1) := by decide +kernel
theorem dX11_apply_40 : decode cX11_apply 40 = .ok (.getfield 28, 3) := by decide +kernel
theorem dX11_apply_43 : decode cX11_apply 43 = .ok (.iload 7, 2) := by decide +kernel
theorem dX11_apply_45 : decode cX11_apply 45 = .ok (.iload_n 2, 1) := by decide +kernel
theorem dX11_apply_46 : decode cX11_apply 46 = .ok (.isub, 1) := by decide +kernel
theorem dX11_apply_47 : decode cX11_apply 47 = .ok (.iaload, 1) := by decide +kernel
theorem dX11_apply_48 : decode cX11_apply 48 = .ok (.goto 12, 3) := by decide +kernel
theorem dX11_apply_51 : decode cX11_apply 51 = .ok (.aload_n 0, 1) := by decide +kernel
theorem dX11_apply_52 : decode cX11_apply 52 = .ok (.getfield 25, 3) := by decide +kernel
theorem dX11_apply_55 : decode cX11_apply 55 = .ok (.iload 7, 2) := by decide +kernel
theorem dX11_apply_57 : decode cX11_apply 57 = .ok (.iload_n 2, 1) := by decide +kernel
theorem dX11_apply_58 : decode cX11_apply 58 = .ok (.isub, 1) := by decide +kernel
theorem dX11_apply_59 : decode cX11_apply 59 = .ok (.iaload, 1) := by decide +kernel
theorem dX11_apply_60 : decode cX11_apply 60 = .ok (.istore 8, 2) := by decide +kernel
theorem dX11_apply_62 : decode cX11_apply 62 = .ok (.aload_n 0, 1) := by decide +kernel
theorem dX11_apply_63 : decode cX11_apply 63 = .ok (.getfield 28, 3) := by decide +kernel
theorem dX11_apply_66 : decode cX11_apply 66 = .ok (.iload 7, 2) := by decide +kernel
theorem dX11_apply_68 : decode cX11_apply 68 = .ok (.aload_n 0, 1) := by decide +kernel
theorem dX11_apply_69 : decode cX11_apply 69 = .ok (.getfield 25, 3) := by decide +kernel
theorem dX11_apply_72 : decode cX11_apply 72 = .ok (.iload 7, 2) := by decide +kernel
theorem dX11_apply_74 : decode cX11_apply 74 = .ok (.iaload, 1) := by decide +kernel
theorem dX11_apply_75 : decode cX11_apply 75 = .ok (.iload 4, 2) := by decide +kernel
theorem dX11_apply_77 : decode cX11_apply 77 = .ok (.ifCond .eq 8, 3) := by decide +kernel
theorem dX11_apply_80 : decode cX11_apply 80 = .ok (.iload 8, 2) := by decide +kernel
theorem dX11_apply_82 : decode cX11_apply 82 = .ok (.goto 9, 3) := by decide +kernel
theorem dX11_apply_85 : decode cX11_apply 85 = .ok (.sipush 256, 3) := by decide +kernel
theorem dX11_apply_88 : decode cX11_apply 88 = .ok (.iload 8, 2) := by decide +kernel
theorem dX11_apply_90 : decode cX11_apply 90 = .ok (.isub, 1) := by decide +kernel
theorem dX11_apply_91 : decode cX11_apply 91 = .ok (.iadd, 1) := by decide +kernel
theorem dX11_apply_92 : decode cX11_apply 92 = .ok (.sipush 256, 3) := by decide +kernel
theorem dX11_apply_95 : decode cX11_apply 95 = .ok (.irem, 1) := by decide +kernel
theorem dX11_apply_96 : decode cX11_apply 96 = .ok (.iastore, 1) := by decide +kernel
theorem dX11_apply_97 : decode cX11_apply 97 = .ok (.goto 151, 3) := by decide +kernel
theorem dX11_apply_100 : decode cX11_apply 100 = .ok (.iload_n 1, 1) := by decide +kernel
theorem dX11_apply_101 : decode cX11_apply 101 = .ok (.iconst 2, 1) := by decide +kernel
theorem dX11_apply_102 : decode cX11_apply 102 = .ok (.if_icmp .ne 64, 3) := by decide +kernel
theorem dX11_apply_105 : decode cX11_apply 105 = .ok (.iload 4, 2) := by decide +kernel
theorem dX11_apply_107 : decode cX11_apply 107 = .ok (.ifCond .eq 13, 3) := by decide +kernel
theorem dX11_apply_110 : decode cX11_apply 110 = .ok (.aload_n 0, 1) := by decide +kernel
theorem dX11_apply_111 : decode cX11_apply 111 = .ok (.getfield 25, 3) := by decide +kernel
theorem dX11_apply_114 : decode cX11_apply 114 = .ok (.iload 7, 2) := by decide +kernel
theorem dX11_apply_116 : decode cX11_apply 116 = .ok (.iaload, 1) := by decide +kernel
theorem dX11_apply_117 : decode cX11_apply 117 = .ok (.goto 14, 3) := by decide +kernel
theorem dX11_apply_120 : decode cX11_apply 120 = .ok (.aload_n 0, 1) := by decide +kernel
theorem dX11_apply_121 : decode cX11_apply 121 = .ok (.aload_n 0, 1) := by decide +kernel
theorem dX11_apply_122 : decode cX11_apply 122 = .ok (.getfield 25, 3) := by decide +kernel
theorem dX11_apply_125 : decode cX11_apply 125 = .ok (.iload 7, 2) := by decide +kernel
theorem dX11_apply_127 : decode cX11_apply 127 = .ok (.iaload, 1) := by decide +kernel
theorem dX11_apply_128 : decode cX11_apply 128 = .ok (.invokevirtual 109, 3) := by decide +kernel
theorem dX11_apply_131 : decode cX11_apply 131 = .ok (.istore 8, 2) := by decide +kernel
theorem dX11_apply_133 : decode cX11_apply 133 = .ok (.aload_n 0, 1) := by decide +kernel
theorem dX11_apply_134 : decode cX11_apply 134 = .ok (.getfield 28, 3) := by decide +kernel
theorem dX11_apply_137 : decode cX11_apply 137 = .ok (.iload 7, 2) := by decide +kernel
theorem dX11_apply_139 : decode cX11_apply 139 = .ok (.iload 4, 2) := by decide +kernel
theorem dX11_apply_141 : decode cX11_apply 141 = .ok (.ifCond .eq 13, 3) := by decide +kernel
theorem dX11_apply_144 : decode cX11_apply 144 = .ok (.aload_n 0, 1) := by decide +kernel
theorem dX11_apply_145 : decode cX11_apply 145 = .ok (.getfield 49, 3) := by decide +kernel
theorem dX11_apply_148 : decode cX11_apply 148 = .ok (.iload 8, 2) := by decide +kernel
theorem dX11_apply_150 : decode cX11_apply 150 = .ok (.iaload, 1) := by decide +kernel
theorem dX11_apply_151 : decode cX11_apply 151 = .ok (.goto 5, 3) := by decide +kernel
theorem dX11_apply_154 : decode cX11_apply 154 = .ok (.iload 8, 2) := by decide +kernel
theorem dX11_apply_156 : decode cX11_apply 156 = .ok (.iastore, 1) := by decide +kernel
theorem dX11_apply_157 : decode cX11_apply 157 = .ok (.aload_n 0, 1) := by decide +kernel
theorem dX11_apply_158 : decode cX11_apply 158 = .ok (.iload 8, 2) := by decide +kernel
theorem dX11_apply_160 : decode cX11_apply 160 = .ok (.invokevirtual 113, 3) := by decide +kernel
theorem dX11_apply_163 : decode cX11_apply 163 = .ok (.goto 85, 3) := by decide +kernel
theorem dX11_apply_166 : decode cX11_apply 166 = .ok (.iload_n 1, 1) := by decide +kernel
theorem dX11_apply_167 : decode cX11_apply 167 = .ok (.iconst 3, 1) := by decide +kernel
theorem dX11_apply_168 : decode cX11_apply 168 = .ok (.if_icmp .ne 64, 3) := by decide +kernel
theorem dX11_apply_171 : decode cX11_apply 171 = .ok (.iload 5, 2) := by decide +kernel
theorem dX11_apply_173 : decode cX11_apply 173 = .ok (.iload_n 3, 1) := by decide +kernel
theorem dX11_apply_174 : decode cX11_apply 174 = .ok (.if_icmp .lt 13, 3) := by decide +kernel
theorem dX11_apply_177 : decode cX11_apply 177 = .ok (.iinc 6 1, 3) := by decide +kernel
theorem dX11_apply_180 : decode cX11_apply 180 = .ok (.iload 6, 2) := by decide +kernel
theorem dX11_apply_182 : decode cX11_apply 182 = .ok (.istore 5, 2) := by decide +kernel
theorem dX11_apply_184 : decode cX11_apply 184 = .ok (.goto (-13), 3) := by decide +kernel
theorem dX11_apply_187 : decode cX11_apply 187 = .ok (.iload 4, 2) := by decide +kernel
theorem dX11_apply_189 : decode cX11_apply 189 = .ok (.ifCond .eq 20, 3) := by decide +kernel
theorem dX11_apply_192 : decode cX11_apply 192 = .ok (.aload_n 0, 1) := by decide +kernel
theorem dX11_apply_193 : decode cX11_apply 193 = .ok (.getfield 28, 3) := by decide +kernel
theorem dX11_apply_196 : decode cX11_apply 196 = .ok (.iload 5, 2) := by decide +kernel
theorem dX11_apply_198 : decode cX11_apply 198 = .ok (.aload_n 0, 1) := by decide +kernel
theorem dX11_apply_199 : decode cX11_apply 199 = .ok (.getfield 25, 3) := by decide +kernel
theorem dX11_apply_202 : decode cX11_apply 202 = .ok (.iload 7, 2) := by decide +kernel
theorem dX11_apply_204 : decode cX11_apply 204 = .ok (.iaload, 1) := by decide +kernel
theorem dX11_apply_205 : decode cX11_apply 205 = .ok (.iastore, 1) := by decide +kernel
theorem dX11_apply_206 : decode cX11_apply 206 = .ok (.goto 17, 3) := by decide +kernel
theorem dX11_apply_209 : decode cX11_apply 209 = .ok (.aload_n 0, 1) := by decide +kernel
theorem dX11_apply_210 : decode cX11_apply 210 = .ok (.getfield 28, 3) := by decide +kernel
theorem dX11_apply_213 : decode cX11_apply 213 = .ok (.iload 7, 2) := by decide +kernel
theorem dX11_apply_215 : decode cX11_apply 215 = .ok (.aload_n 0, 1) := by decide +kernel
theorem dX11_apply_216 : decode cX11_apply 216 = .ok (.getfield 25, 3) := by decide +kernel
theorem dX11_apply_219 : decode cX11_apply 219 = .ok (.iload 5, 2) := by decide +kernel
theorem dX11_apply_221 : decode cX11_apply 221 = .ok (.iaload, 1) := by decide +kernel
theorem dX11_apply_222 : decode cX11_apply 222 = .ok (.iastore, 1) := by decide +kernel
theorem dX11_apply_223 : decode cX11_apply 223 = .ok (.iload 5, 2) := by decide +kernel
theorem dX11_apply_225 : decode cX11_apply 225 = .ok (.iload_n 2, 1) := by decide +kernel
theorem dX11_apply_226 : decode cX11_apply 226 = .ok (.iadd, 1) := by decide +kernel
theorem dX11_apply_227 : decode cX11_apply 227 = .ok (.istore 5, 2) := by decide +kernel
theorem dX11_apply_229 : decode cX11_apply 229 = .ok (.goto 19, 3) := by decide +kernel
theorem dX11_apply_232 : decode cX11_apply 232 = .ok (.aload_n 0, 1) := by decide +kernel
theorem dX11_apply_233 : decode cX11_apply 233 = .ok (.getfield 28, 3) := by decide +kernel
theorem dX11_apply_236 : decode cX11_apply 236 = .ok (.iload 7, 2) := by decide +kernel
theorem dX11_apply_238 : decode cX11_apply 238 = .ok (.aload_n 0, 1) := by decide +kernel
theorem dX11_apply_239 : decode cX11_apply 239 = .ok (.getfield 25, 3) := by decide +kernel
theorem dX11_apply_242 : decode cX11_apply 242 = .ok (.iload 7, 2) := by decide +kernel
theorem dX11_apply_244 : decode cX11_apply 244 = .ok (.iaload, 1) := by decide +kernel
theorem dX11_apply_245 : decode cX11_apply 245 = .ok (.iload_n 2, 1) := by decide +kernel
theorem dX11_apply_246 : decode cX11_apply 246 = .ok (.ixor, 1) := by decide +kernel
theorem dX11_apply_247 : decode cX11_apply 247 = .ok (.iastore, 1) := by decide +kernel
theorem dX11_apply_248 : decode cX11_apply 248 = .ok (.iinc 7 1, 3) := by decide +kernel
theorem dX11_apply_251 : decode cX11_apply 251 = .ok (.goto (-238), 3) := by decide +kernel
theorem dX11_apply_254 : decode cX11_apply 254 = .ok (.iconst 0, 1) := by decide +kernel
theorem dX11_apply_255 : decode cX11_apply 255 = .ok (.istore 7, 2) := by decide +kernel
theorem dX11_apply_257 : decode cX11_apply 257 = .ok (.iload 7, 2) := by decide +kernel
theorem dX11_apply_259 : decode cX11_apply 259 = .ok (.iload_n 3, 1) := by decide +kernel
theorem dX11_apply_260 : decode cX11_apply 260 = .ok (.if_icmp .ge 23, 3) := by decide +kernel
theorem dX11_apply_263 : decode cX11_apply 263 = .ok (.aload_n 0, 1) := by decide +kernel
theorem dX11_apply_264 : decode cX11_apply 264 = .ok (.getfield 25, 3) := by decide +kernel
theorem dX11_apply_267 : decode cX11_apply 267 = .ok (.iload 7, 2) := by decide +kernel
theorem dX11_apply_269 : decode cX11_apply 269 = .ok (.aload_n 0, 1) := by decide +kernel
theorem dX11_apply_270 : decode cX11_apply 270 = .ok (.getfield 28, 3) := by decide +kernel
theorem dX11_apply_273 : decode cX11_apply 273 = .ok (.iload 7, 2) := by decide +kernel
theorem dX11_apply_275 : decode cX11_apply 275 = .ok (.iaload, 1) := by decide +kernel
theorem dX11_apply_276 : decode cX11_apply 276 = .ok (.iastore, 1) := by decide +kernel
theorem dX11_apply_277 : decode cX11_apply 277 = .ok (.iinc 7 1, 3) := by decide +kernel
theorem dX11_apply_280 : decode cX11_apply 280 = .ok (.goto (-23), 3) := by decide +kernel
theorem dX11_apply_283 : decode cX11_apply 283 = .ok (.return_, 1) := by decide +kernel
theorem dX11_put_0 : decode cX11_put 0 = .ok (.aload_n 0, 1) := by decide +kernel
theorem dX11_put_1 : decode cX11_put 1 = .ok (.getfield 31, 3) := by decide +kernel
theorem dX11_put_4 : decode cX11_put 4 = .ok (.aload_n 0, 1) := by decide +kernel
theorem dX11_put_5 : decode cX11_put 5 = .ok (.getfield 117, 3) := by decide +kernel
theorem dX11_put_8 : decode cX11_put 8 = .ok (.iload_n 1, 1) := by decide +kernel
theorem dX11_put_9 : decode cX11_put 9 = .ok (.iastore, 1) := by decide +kernel
theorem dX11_put_10 : decode cX11_put 10 = .ok (.aload_n 0, 1) := by decide +kernel
theorem dX11_put_11 : decode cX11_put 11 = .ok (.dup, 1) := by decide +kernel
theorem dX11_put_12 : decode cX11_put 12 = .ok (.getfield 117, 3) := by decide +kernel
theorem dX11_put_15 : decode cX11_put 15 = .ok (.iconst 1, 1) := by decide +kernel
theorem dX11_put_16 : decode cX11_put 16 = .ok (.iadd, 1) := by decide +kernel
theorem dX11_put_17 : decode cX11_put 17 = .ok (.putfield 117, 3) := by decide +kernel
theorem dX11_put_20 : decode cX11_put 20 = .ok (.aload_n 0, 1) := by decide +kernel
theorem dX11_put_21 : decode cX11_put 21 = .ok (.bipush 8, 2) := by decide +kernel
theorem dX11_put_23 : decode cX11_put 23 = .ok (.putfield 120, 3) := by decide +kernel
theorem dX11_put_26 : decode cX11_put 26 = .ok (.return_, 1) := by decide +kernel
theorem dX11_bits_0 : decode cX11_bits 0 = .ok (.iload_n 2, 1) := by decide +kernel
theorem dX11_bits_1 : decode cX11_bits 1 = .ok (.iconst 1, 1) := by decide +kernel
theorem dX11_bits_2 : decode cX11_bits 2 = .ok (.isub, 1) := by decide +kernel
theorem dX11_bits_3 : decode cX11_bits 3 = .ok (.istore_n 3, 1) := by decide +kernel
theorem dX11_bits_4 : decode cX11_bits 4 = .ok (.iload_n 3, 1) := by decide +kernel
theorem dX11_bits_5 : decode cX11_bits 5 = .ok (.ifCond .lt 65, 3) := by decide +kernel
theorem dX11_bits_8 : decode cX11_bits 8 = .ok (.aload_n 0, 1) := by decide +kernel
theorem dX11_bits_9 : decode cX11_bits 9 = .ok (.getfield 120, 3) := by decide +kernel
theorem dX11_bits_12 : decode cX11_bits 12 = .ok (.bipush 8, 2) := by decide +kernel
theorem dX11_bits_14 : decode cX11_bits 14 = .ok (.if_icmp .ne 13, 3) := by decide +kernel
theorem dX11_bits_17 : decode cX11_bits 17 = .ok (.aload_n 0, 1) := by decide +kernel
theorem dX11_bits_18 : decode cX11_bits 18 = .ok (.iconst 0, 1) := by decide +kernel
theorem dX11_bits_19 : decode cX11_bits 19 = .ok (.invokevirtual 123, 3) := by decide +kernel
theorem dX11_bits_22 : decode cX11_bits 22 = .ok (.aload_n 0, 1) := by decide +kernel
theorem dX11_bits_23 : decode cX11_bits 23 = .ok (.iconst 0, 1) := by decide +kernel
theorem dX11_bits_24 : decode cX11_bits 24 = .ok (.putfield 120, 3) := by decide +kernel
theorem dX11_bits_27 : decode cX11_bits 27 = .ok (.aload_n 0, 1) := by decide +kernel
theorem dX11_bits_28 : decode cX11_bits 28 = .ok (.getfield 31, 3) := by decide +kernel
theorem dX11_bits_31 : decode cX11_bits 31 = .ok (.aload_n 0, 1) := by decide +kernel
theorem dX11_bits_32 : decode cX11_bits 32 = .ok (.getfield 117, 3) := by decide +kernel
theorem dX11_bits_35 : decode cX11_bits 35 = .ok (.iconst 1, 1) := by decide +kernel
theorem dX11_bits_36 : decode cX11_bits 36 = .ok (.isub, 1) := by decide +kernel
theorem dX11_bits_37 : decode cX11_bits 37 = .ok (.dup2, 1) := by decide +kernel
theorem dX11_bits_38 : decode cX11_bits 38 = .ok (.iaload, 1) := by decide +kernel
theorem dX11_bits_39 : decode cX11_bits 39 = .ok (.iload_n 1, 1) := by decide +kernel
theorem dX11_bits_40 : decode cX11_bits 40 = .ok (.iload_n 3, 1) := by decide +kernel
theorem dX11_bits_41 : decode cX11_bits 41 = .ok (.ishr, 1) := by decide +kernel
theorem dX11_bits_42 : decode cX11_bits 42 = .ok (.iconst 1, 1) := by decide +kernel
theorem dX11_bits_43 : decode cX11_bits 43 = .ok (.iand, 1) := by decide +kernel
theorem dX11_bits_44 : decode cX11_bits 44 = .ok (.bipush 7, 2) := by decide +kernel
theorem dX11_bits_46 : decode cX11_bits 46 = .ok (.aload_n 0, 1) := by decide +kernel
theorem dX11_bits_47 : decode cX11_bits 47 = .ok (.getfield 120, 3) := by decide +kernel
theorem dX11_bits_50 : decode cX11_bits 50 = .ok (.isub, 1) := by decide +kernel
theorem dX11_bits_51 : decode cX11_bits 51 = .ok (.ishl, 1) := by decide +kernel
theorem dX11_bits_52 : decode cX11_bits 52 = .ok (.ior, 1) := by decide +kernel
theorem dX11_bits_53 : decode cX11_bits 53 = .ok (.iastore, 1) := by decide +kernel
theorem dX11_bits_54 : decode cX11_bits 54 = .ok (.aload_n 0, 1) := by decide +kernel
theorem dX11_bits_55 : decode cX11_bits 55 = .ok (.dup, 1) := by decide +kernel
theorem dX11_bits_56 : decode cX11_bits 56 = .ok (.getfield 120, 3) := by decide +kernel
theorem dX11_bits_59 : decode cX11_bits 59 = .ok (.iconst 1, 1) := by decide +kernel
theorem dX11_bits_60 : decode cX11_bits 60 = .ok (.iadd, 1) := by decide +kernel
theorem dX11_bits_61 : decode cX11_bits 61 = .ok (.putfield 120, 3) := by decide +kernel
theorem dX11_bits_64 : decode cX11_bits 64 = .ok (.iinc 3 (-1), 3) := by decide +kernel
theorem dX11_bits_67 : decode cX11_bits 67 = .ok (.goto (-63), 3) := by decide +kernel
theorem dX11_bits_70 : decode cX11_bits 70 = .ok (.return_, 1) := by decide +kernel
theorem dX11_widthOf_0 : decode cX11_widthOf 0 = .ok (.iconst 0, 1) := by decide +kernel
theorem dX11_widthOf_1 : decode cX11_widthOf 1 = .ok (.istore_n 1, 1) := by decide +kernel
theorem dX11_widthOf_2 : decode cX11_widthOf 2 = .ok (.iload_n 0, 1) := by decide +kernel
theorem dX11_widthOf_3 : decode cX11_widthOf 3 = .ok (.iconst 1, 1) := by decide +kernel
theorem dX11_widthOf_4 : decode cX11_widthOf 4 = .ok (.isub, 1) := by decide +kernel
theorem dX11_widthOf_5 : decode cX11_widthOf 5 = .ok (.iload_n 1, 1) := by decide +kernel
theorem dX11_widthOf_6 : decode cX11_widthOf 6 = .ok (.ishr, 1) := by decide +kernel
theorem dX11_widthOf_7 : decode cX11_widthOf 7 = .ok (.ifCond .le 9, 3) := by decide +kernel
theorem dX11_widthOf_10 : decode cX11_widthOf 10 = .ok (.iinc 1 1, 3) := by decide +kernel
theorem dX11_widthOf_13 : decode cX11_widthOf 13 = .ok (.goto (-11), 3) := by decide +kernel
theorem dX11_widthOf_16 : decode cX11_widthOf 16 = .ok (.iload_n 1, 1) := by decide +kernel
theorem dX11_widthOf_17 : decode cX11_widthOf 17 = .ok (.ireturn, 1) := by decide +kernel
theorem dX11_like_0 : decode cX11_like 0 = .ok (.iconst 1, 1) := by decide +kernel
theorem dX11_like_1 : decode cX11_like 1 = .ok (.istore_n 3, 1) := by decide +kernel
theorem dX11_like_2 : decode cX11_like 2 = .ok (.iload_n 1, 1) := by decide +kernel
theorem dX11_like_3 : decode cX11_like 3 = .ok (.iload_n 3, 1) := by decide +kernel
theorem dX11_like_4 : decode cX11_like 4 = .ok (.iadd, 1) := by decide +kernel
theorem dX11_like_5 : decode cX11_like 5 = .ok (.iload_n 2, 1) := by decide +kernel
theorem dX11_like_6 : decode cX11_like 6 = .ok (.if_icmp .ge 33, 3) := by decide +kernel
theorem dX11_like_9 : decode cX11_like 9 = .ok (.aload_n 0, 1) := by decide +kernel
theorem dX11_like_10 : decode cX11_like 10 = .ok (.getfield 25, 3) := by decide +kernel
theorem dX11_like_13 : decode cX11_like 13 = .ok (.iload_n 1, 1) := by decide +kernel
theorem dX11_like_14 : decode cX11_like 14 = .ok (.iload_n 3, 1) := by decide +kernel
theorem dX11_like_15 : decode cX11_like 15 = .ok (.iadd, 1) := by decide +kernel
theorem dX11_like_16 : decode cX11_like 16 = .ok (.iaload, 1) := by decide +kernel
theorem dX11_like_17 : decode cX11_like 17 = .ok (.aload_n 0, 1) := by decide +kernel
theorem dX11_like_18 : decode cX11_like 18 = .ok (.getfield 25, 3) := by decide +kernel
theorem dX11_like_21 : decode cX11_like 21 = .ok (.iload_n 1, 1) := by decide +kernel
theorem dX11_like_22 : decode cX11_like 22 = .ok (.iaload, 1) := by decide +kernel
theorem dX11_like_23 : decode cX11_like 23 = .ok (.if_icmp .ne 16, 3) := by decide +kernel
theorem dX11_like_26 : decode cX11_like 26 = .ok (.iload_n 3, 1) := by decide +kernel
theorem dX11_like_27 : decode cX11_like 27 = .ok (.sipush 129, 3) := by decide +kernel
theorem dX11_like_30 : decode cX11_like 30 = .ok (.if_icmp .ge 9, 3) := by decide +kernel
theorem dX11_like_33 : decode cX11_like 33 = .ok (.iinc 3 1, 3) := by decide +kernel
theorem dX11_like_36 : decode cX11_like 36 = .ok (.goto (-34), 3) := by decide +kernel
theorem dX11_like_39 : decode cX11_like 39 = .ok (.iload_n 3, 1) := by decide +kernel
theorem dX11_like_40 : decode cX11_like 40 = .ok (.ireturn, 1) := by decide +kernel
theorem dX11_putRow_0 : decode cX11_putRow 0 = .ok (.aload_n 0, 1) := by decide +kernel
theorem dX11_putRow_1 : decode cX11_putRow 1 = .ok (.iload_n 2, 1) := by decide +kernel
theorem dX11_putRow_2 : decode cX11_putRow 2 = .ok (.iload_n 1, 1) := by decide +kernel
theorem dX11_putRow_3 : decode cX11_putRow 3 = .ok (.isub, 1) := by decide +kernel
theorem dX11_putRow_4 : decode cX11_putRow 4 = .ok (.iconst 1, 1) := by decide +kernel
theorem dX11_putRow_5 : decode cX11_putRow 5 = .ok (.isub, 1) := by decide +kernel
theorem dX11_putRow_6 : decode cX11_putRow 6 = .ok (.invokevirtual 123, 3) := by decide +kernel
theorem dX11_putRow_9 : decode cX11_putRow 9 = .ok (.iload_n 1, 1) := by decide +kernel
theorem dX11_putRow_10 : decode cX11_putRow 10 = .ok (.istore_n 3, 1) := by decide +kernel
theorem dX11_putRow_11 : decode cX11_putRow 11 = .ok (.iload_n 3, 1) := by decide +kernel
theorem dX11_putRow_12 : decode cX11_putRow 12 = .ok (.iload_n 2, 1) := by decide +kernel
theorem dX11_putRow_13 : decode cX11_putRow 13 = .ok (.if_icmp .ge 19, 3) := by decide +kernel
theorem dX11_putRow_16 : decode cX11_putRow 16 = .ok (.aload_n 0, 1) := by decide +kernel
theorem dX11_putRow_17 : decode cX11_putRow 17 = .ok (.aload_n 0, 1) := by decide +kernel
theorem dX11_putRow_18 : decode cX11_putRow 18 = .ok (.getfield 25, 3) := by decide +kernel
theorem dX11_putRow_21 : decode cX11_putRow 21 = .ok (.iload_n 3, 1) := by decide +kernel
theorem dX11_putRow_22 : decode cX11_putRow 22 = .ok (.iaload, 1) := by decide +kernel
theorem dX11_putRow_23 : decode cX11_putRow 23 = .ok (.invokevirtual 123, 3) := by decide +kernel
theorem dX11_putRow_26 : decode cX11_putRow 26 = .ok (.iinc 3 1, 3) := by decide +kernel
theorem dX11_putRow_29 : decode cX11_putRow 29 = .ok (.goto (-18), 3) := by decide +kernel
theorem dX11_putRow_32 : decode cX11_putRow 32 = .ok (.return_, 1) := by decide +kernel
theorem dX11_packRuns_0 : decode cX11_packRuns 0 = .ok (.iconst 0, 1) := by decide +kernel
theorem dX11_packRuns_1 : decode cX11_packRuns 1 = .ok (.istore_n 2, 1) := by decide +kernel
theorem dX11_packRuns_2 : decode cX11_packRuns 2 = .ok (.iload_n 2, 1) := by decide +kernel
theorem dX11_packRuns_3 : decode cX11_packRuns 3 = .ok (.iload_n 1, 1) := by decide +kernel
theorem dX11_packRuns_4 : decode cX11_packRuns 4 = .ok (.if_icmp .ge 91, 3) := by decide +kernel
theorem dX11_packRuns_7 : decode cX11_packRuns 7 = .ok (.aload_n 0, 1) := by decide +kernel
theorem dX11_packRuns_8 : decode cX11_packRuns 8 = .ok (.iload_n 2, 1) := by decide +kernel
theorem dX11_packRuns_9 : decode cX11_packRuns 9 = .ok (.iload_n 1, 1) := by decide +kernel
theorem dX11_packRuns_10 : decode cX11_packRuns 10 = .ok (.invokevirtual 126, 3) := by decide +kernel
theorem dX11_packRuns_13 : decode cX11_packRuns 13 = .ok (.istore_n 3, 1) := by decide +kernel
theorem dX11_packRuns_14 : decode cX11_packRuns 14 = .ok (.iload_n 3, 1) := by decide +kernel
theorem dX11_packRuns_15 : decode cX11_packRuns 15 = .ok (.iconst 1, 1) := by decide +kernel
theorem dX11_packRuns_16 : decode cX11_packRuns 16 = .ok (.if_icmp .le 28, 3) := by decide +kernel
theorem dX11_packRuns_19 : decode cX11_packRuns 19 = .ok (.aload_n 0, 1) := by decide +kernel
theorem dX11_packRuns_20 : decode cX11_packRuns 20 = .ok (.bipush 126, 2) := by decide +kernel
theorem dX11_packRuns_22 : decode cX11_packRuns 22 = .ok (.iload_n 3, 1) := by decide +kernel
theorem dX11_packRuns_23 : decode cX11_packRuns 23 = .ok (.iadd, 1) := by decide +kernel
theorem dX11_packRuns_24 : decode cX11_packRuns 24 = .ok (.invokevirtual 123, 3) := by decide +kernel
theorem dX11_packRuns_27 : decode cX11_packRuns 27 = .ok (.aload_n 0, 1) := by decide +kernel
theorem dX11_packRuns_28 : decode cX11_packRuns 28 = .ok (.aload_n 0, 1) := by decide +kernel
theorem dX11_packRuns_29 : decode cX11_packRuns 29 = .ok (.getfield 25, 3) := by decide +kernel
theorem dX11_packRuns_32 : decode cX11_packRuns 32 = .ok (.iload_n 2, 1) := by decide +kernel
theorem dX11_packRuns_33 : decode cX11_packRuns 33 = .ok (.iaload, 1) := by decide +kernel
theorem dX11_packRuns_34 : decode cX11_packRuns 34 = .ok (.invokevirtual 123, 3) := by decide +kernel
theorem dX11_packRuns_37 : decode cX11_packRuns 37 = .ok (.iload_n 2, 1) := by decide +kernel
theorem dX11_packRuns_38 : decode cX11_packRuns 38 = .ok (.iload_n 3, 1) := by decide +kernel
theorem dX11_packRuns_39 : decode cX11_packRuns 39 = .ok (.iadd, 1) := by decide +kernel
theorem dX11_packRuns_40 : decode cX11_packRuns 40 = .ok (.istore_n 2, 1) := by decide +kernel
theorem dX11_packRuns_41 : decode cX11_packRuns 41 = .ok (.goto 51, 3) := by decide +kernel
theorem dX11_packRuns_44 : decode cX11_packRuns 44 = .ok (.iload_n 2, 1) := by decide +kernel
theorem dX11_packRuns_45 : decode cX11_packRuns 45 = .ok (.iconst 1, 1) := by decide +kernel
theorem dX11_packRuns_46 : decode cX11_packRuns 46 = .ok (.iadd, 1) := by decide +kernel
theorem dX11_packRuns_47 : decode cX11_packRuns 47 = .ok (.istore 4, 2) := by decide +kernel
theorem dX11_packRuns_49 : decode cX11_packRuns 49 = .ok (.iload 4, 2) := by decide +kernel
theorem dX11_packRuns_51 : decode cX11_packRuns 51 = .ok (.iload_n 1, 1) := by decide +kernel
theorem dX11_packRuns_52 : decode cX11_packRuns 52 = .ok (.if_icmp .ge 30, 3) := by decide +kernel
theorem dX11_packRuns_55 : decode cX11_packRuns 55 = .ok (.iload 4, 2) := by decide +kernel
theorem dX11_packRuns_57 : decode cX11_packRuns 57 = .ok (.iload_n 2, 1) := by decide +kernel
theorem dX11_packRuns_58 : decode cX11_packRuns 58 = .ok (.isub, 1) := by decide +kernel
theorem dX11_packRuns_59 : decode cX11_packRuns 59 = .ok (.sipush 128, 3) := by decide +kernel
theorem dX11_packRuns_62 : decode cX11_packRuns 62 = .ok (.if_icmp .ge 20, 3) := by decide +kernel
theorem dX11_packRuns_65 : decode cX11_packRuns 65 = .ok (.aload_n 0, 1) := by decide +kernel
theorem dX11_packRuns_66 : decode cX11_packRuns 66 = .ok (.iload 4, 2) := by decide +kernel
theorem dX11_packRuns_68 : decode cX11_packRuns 68 = .ok (.iload_n 1, 1) := by decide +kernel
theorem dX11_packRuns_69 : decode cX11_packRuns 69 = .ok (.invokevirtual 126, 3) := by decide +kernel
theorem dX11_packRuns_72 : decode cX11_packRuns 72 = .ok (.iconst 3, 1) := by decide +kernel
theorem dX11_packRuns_73 : decode cX11_packRuns 73 = .ok (.if_icmp .ge 9, 3) := by decide +kernel
theorem dX11_packRuns_76 : decode cX11_packRuns 76 = .ok (.iinc 4 1, 3) := by decide +kernel
theorem dX11_packRuns_79 : decode cX11_packRuns 79 = .ok (.goto (-30), 3) := by decide +kernel
theorem dX11_packRuns_82 : decode cX11_packRuns 82 = .ok (.aload_n 0, 1) := by decide +kernel
theorem dX11_packRuns_83 : decode cX11_packRuns 83 = .ok (.iload_n 2, 1) := by decide +kernel
theorem dX11_packRuns_84 : decode cX11_packRuns 84 = .ok (.iload 4, 2) := by decide +kernel
theorem dX11_packRuns_86 : decode cX11_packRuns 86 = .ok (.invokevirtual 130, 3) := by decide +kernel
theorem dX11_packRuns_89 : decode cX11_packRuns 89 = .ok (.iload 4, 2) := by decide +kernel
theorem dX11_packRuns_91 : decode cX11_packRuns 91 = .ok (.istore_n 2, 1) := by decide +kernel
theorem dX11_packRuns_92 : decode cX11_packRuns 92 = .ok (.goto (-90), 3) := by decide +kernel
theorem dX11_packRuns_95 : decode cX11_packRuns 95 = .ok (.return_, 1) := by decide +kernel
theorem dX11_match_0 : decode cX11_match 0 = .ok (.aload_n 0, 1) := by decide +kernel
theorem dX11_match_1 : decode cX11_match 1 = .ok (.iconst 0, 1) := by decide +kernel
theorem dX11_match_2 : decode cX11_match 2 = .ok (.putfield 134, 3) := by decide +kernel
theorem dX11_match_5 : decode cX11_match 5 = .ok (.iconst 1, 1) := by decide +kernel
theorem dX11_match_6 : decode cX11_match 6 = .ok (.istore_n 3, 1) := by decide +kernel
theorem dX11_match_7 : decode cX11_match 7 = .ok (.iload_n 3, 1) := by decide +kernel
theorem dX11_match_8 : decode cX11_match 8 = .ok (.iload_n 1, 1) := by decide +kernel
theorem dX11_match_9 : decode cX11_match 9 = .ok (.if_icmp .gt 84, 3) := by decide +kernel
theorem dX11_match_12 : decode cX11_match 12 = .ok (.iload_n 3, 1) := by decide +kernel
theorem dX11_match_13 : decode cX11_match 13 = .ok (.sipush 256, 3) := by decide +kernel
theorem dX11_match_16 : decode cX11_match 16 = .ok (.if_icmp .ge 77, 3) := by decide +kernel
theorem dX11_match_19 : decode cX11_match 19 = .ok (.iconst 0, 1) := by decide +kernel
theorem dX11_match_20 : decode cX11_match 20 = .ok (.istore 4, 2) := by decide +kernel
theorem dX11_match_22 : decode cX11_match 22 = .ok (.iload_n 1, 1) := by decide +kernel
theorem dX11_match_23 : decode cX11_match 23 = .ok (.iload 4, 2) := by decide +kernel
theorem dX11_match_25 : decode cX11_match 25 = .ok (.iadd, 1) := by decide +kernel
theorem dX11_match_26 : decode cX11_match 26 = .ok (.iload_n 2, 1) := by decide +kernel
theorem dX11_match_27 : decode cX11_match 27 = .ok (.if_icmp .ge 40, 3) := by decide +kernel
theorem dX11_match_30 : decode cX11_match 30 = .ok (.iload 4, 2) := by decide +kernel
end
section
theorem dX11_match_32 : decode cX11_match 32 = .ok (.sipush 130, 3) := by decide +kernel
theorem dX11_match_35 : decode cX11_match 35 = .ok (.if_icmp .ge 32, 3) := by decide +kernel
theorem dX11_match_38 : decode cX11_match 38 = .ok (.aload_n 0, 1) := by decide +kernel
theorem dX11_match_39 : decode cX11_match 39 = .ok (.getfield 25, 3) := by decide +kernel
theorem dX11_match_42 : decode cX11_match 42 = .ok (.iload_n 1, 1) := by decide +kernel
theorem dX11_match_43 : decode cX11_match 43 = .ok (.iload 4, 2) := by decide +kernel
theorem dX11_match_45 : decode cX11_match 45 = .ok (.iadd, 1) := by decide +kernel
theorem dX11_match_46 : decode cX11_match 46 = .ok (.iaload, 1) := by decide +kernel
theorem dX11_match_47 : decode cX11_match 47 = .ok (.aload_n 0, 1) := by decide +kernel
theorem dX11_match_48 : decode cX11_match 48 = .ok (.getfield 25, 3) := by decide +kernel
theorem dX11_match_51 : decode cX11_match 51 = .ok (.iload_n 1, 1) := by decide +kernel
theorem dX11_match_52 : decode cX11_match 52 = .ok (.iload 4, 2) := by decide +kernel
theorem dX11_match_54 : decode cX11_match 54 = .ok (.iadd, 1) := by decide +kernel
theorem dX11_match_55 : decode cX11_match 55 = .ok (.iload_n 3, 1) := by decide +kernel
theorem dX11_match_56 : decode cX11_match 56 = .ok (.isub, 1) := by decide +kernel
theorem dX11_match_57 : decode cX11_match 57 = .ok (.iaload, 1) := by decide +kernel
theorem dX11_match_58 : decode cX11_match 58 = .ok (.if_icmp .ne 9, 3) := by decide +kernel
theorem dX11_match_61 : decode cX11_match 61 = .ok (.iinc 4 1, 3) := by decide +kernel
theorem dX11_match_64 : decode cX11_match 64 = .ok (.goto (-42), 3) := by decide +kernel
theorem dX11_match_67 : decode cX11_match 67 = .ok (.iload 4, 2) := by decide +kernel
theorem dX11_match_69 : decode cX11_match 69 = .ok (.aload_n 0, 1) := by decide +kernel
theorem dX11_match_70 : decode cX11_match 70 = .ok (.getfield 134, 3) := by decide +kernel
theorem dX11_match_73 : decode cX11_match 73 = .ok (.if_icmp .le 14, 3) := by decide +kernel
theorem dX11_match_76 : decode cX11_match 76 = .ok (.aload_n 0, 1) := by decide +kernel
theorem dX11_match_77 : decode cX11_match 77 = .ok (.iload 4, 2) := by decide +kernel
theorem dX11_match_79 : decode cX11_match 79 = .ok (.putfield 134, 3) := by decide +kernel
theorem dX11_match_82 : decode cX11_match 82 = .ok (.aload_n 0, 1) := by decide +kernel
theorem dX11_match_83 : decode cX11_match 83 = .ok (.iload_n 3, 1) := by decide +kernel
theorem dX11_match_84 : decode cX11_match 84 = .ok (.putfield 137, 3) := by decide +kernel
theorem dX11_match_87 : decode cX11_match 87 = .ok (.iinc 3 1, 3) := by decide +kernel
theorem dX11_match_90 : decode cX11_match 90 = .ok (.goto (-83), 3) := by decide +kernel
theorem dX11_match_93 : decode cX11_match 93 = .ok (.return_, 1) := by decide +kernel
theorem dX11_packMatches_0 : decode cX11_packMatches 0 = .ok (.iconst 0, 1) := by decide +kernel
theorem dX11_packMatches_1 : decode cX11_packMatches 1 = .ok (.istore_n 2, 1) := by decide +kernel
theorem dX11_packMatches_2 : decode cX11_packMatches 2 = .ok (.iload_n 2, 1) := by decide +kernel
theorem dX11_packMatches_3 : decode cX11_packMatches 3 = .ok (.iload_n 1, 1) := by decide +kernel
theorem dX11_packMatches_4 : decode cX11_packMatches 4 = .ok (.if_icmp .ge 93, 3) := by decide +kernel
theorem dX11_packMatches_7 : decode cX11_packMatches 7 = .ok (.aload_n 0, 1) := by decide +kernel
theorem dX11_packMatches_8 : decode cX11_packMatches 8 = .ok (.iload_n 2, 1) := by decide +kernel
theorem dX11_packMatches_9 : decode cX11_packMatches 9 = .ok (.iload_n 1, 1) := by decide +kernel
theorem dX11_packMatches_10 : decode cX11_packMatches 10 = .ok (.invokevirtual 140, 3) := by decide +kernel
theorem dX11_packMatches_13 : decode cX11_packMatches 13 = .ok (.aload_n 0, 1) := by decide +kernel
theorem dX11_packMatches_14 : decode cX11_packMatches 14 = .ok (.getfield 134, 3) := by decide +kernel
theorem dX11_packMatches_17 : decode cX11_packMatches 17 = .ok (.iconst 2, 1) := by decide +kernel
theorem dX11_packMatches_18 : decode cX11_packMatches 18 = .ok (.if_icmp .le 32, 3) := by decide +kernel
theorem dX11_packMatches_21 : decode cX11_packMatches 21 = .ok (.aload_n 0, 1) := by decide +kernel
theorem dX11_packMatches_22 : decode cX11_packMatches 22 = .ok (.bipush 125, 2) := by decide +kernel
theorem dX11_packMatches_24 : decode cX11_packMatches 24 = .ok (.aload_n 0, 1) := by decide +kernel
theorem dX11_packMatches_25 : decode cX11_packMatches 25 = .ok (.getfield 134, 3) := by decide +kernel
theorem dX11_packMatches_28 : decode cX11_packMatches 28 = .ok (.iadd, 1) := by decide +kernel
theorem dX11_packMatches_29 : decode cX11_packMatches 29 = .ok (.invokevirtual 123, 3) := by decide +kernel
theorem dX11_packMatches_32 : decode cX11_packMatches 32 = .ok (.aload_n 0, 1) := by decide +kernel
theorem dX11_packMatches_33 : decode cX11_packMatches 33 = .ok (.aload_n 0, 1) := by decide +kernel
theorem dX11_packMatches_34 : decode cX11_packMatches 34 = .ok (.getfield 137, 3) := by decide +kernel
theorem dX11_packMatches_37 : decode cX11_packMatches 37 = .ok (.invokevirtual 123, 3) := by decide +kernel
theorem dX11_packMatches_40 : decode cX11_packMatches 40 = .ok (.iload_n 2, 1) := by decide +kernel
theorem dX11_packMatches_41 : decode cX11_packMatches 41 = .ok (.aload_n 0, 1) := by decide +kernel
theorem dX11_packMatches_42 : decode cX11_packMatches 42 = .ok (.getfield 134, 3) := by decide +kernel
theorem dX11_packMatches_45 : decode cX11_packMatches 45 = .ok (.iadd, 1) := by decide +kernel
theorem dX11_packMatches_46 : decode cX11_packMatches 46 = .ok (.istore_n 2, 1) := by decide +kernel
theorem dX11_packMatches_47 : decode cX11_packMatches 47 = .ok (.goto (-45), 3) := by decide +kernel
theorem dX11_packMatches_50 : decode cX11_packMatches 50 = .ok (.iload_n 2, 1) := by decide +kernel
theorem dX11_packMatches_51 : decode cX11_packMatches 51 = .ok (.istore_n 3, 1) := by decide +kernel
theorem dX11_packMatches_52 : decode cX11_packMatches 52 = .ok (.iload_n 3, 1) := by decide +kernel
theorem dX11_packMatches_53 : decode cX11_packMatches 53 = .ok (.iload_n 1, 1) := by decide +kernel
theorem dX11_packMatches_54 : decode cX11_packMatches 54 = .ok (.if_icmp .ge 32, 3) := by decide +kernel
theorem dX11_packMatches_57 : decode cX11_packMatches 57 = .ok (.iload_n 3, 1) := by decide +kernel
theorem dX11_packMatches_58 : decode cX11_packMatches 58 = .ok (.iload_n 2, 1) := by decide +kernel
theorem dX11_packMatches_59 : decode cX11_packMatches 59 = .ok (.isub, 1) := by decide +kernel
theorem dX11_packMatches_60 : decode cX11_packMatches 60 = .ok (.sipush 128, 3) := by decide +kernel
theorem dX11_packMatches_63 : decode cX11_packMatches 63 = .ok (.if_icmp .ge 23, 3) := by decide +kernel
theorem dX11_packMatches_66 : decode cX11_packMatches 66 = .ok (.aload_n 0, 1) := by decide +kernel
theorem dX11_packMatches_67 : decode cX11_packMatches 67 = .ok (.getfield 134, 3) := by decide +kernel
theorem dX11_packMatches_70 : decode cX11_packMatches 70 = .ok (.iconst 3, 1) := by decide +kernel
theorem dX11_packMatches_71 : decode cX11_packMatches 71 = .ok (.if_icmp .ge 15, 3) := by decide +kernel
theorem dX11_packMatches_74 : decode cX11_packMatches 74 = .ok (.iinc 3 1, 3) := by decide +kernel
theorem dX11_packMatches_77 : decode cX11_packMatches 77 = .ok (.aload_n 0, 1) := by decide +kernel
theorem dX11_packMatches_78 : decode cX11_packMatches 78 = .ok (.iload_n 3, 1) := by decide +kernel
theorem dX11_packMatches_79 : decode cX11_packMatches 79 = .ok (.iload_n 1, 1) := by decide +kernel
theorem dX11_packMatches_80 : decode cX11_packMatches 80 = .ok (.invokevirtual 140, 3) := by decide +kernel
theorem dX11_packMatches_83 : decode cX11_packMatches 83 = .ok (.goto (-31), 3) := by decide +kernel
theorem dX11_packMatches_86 : decode cX11_packMatches 86 = .ok (.aload_n 0, 1) := by decide +kernel
theorem dX11_packMatches_87 : decode cX11_packMatches 87 = .ok (.iload_n 2, 1) := by decide +kernel
theorem dX11_packMatches_88 : decode cX11_packMatches 88 = .ok (.iload_n 3, 1) := by decide +kernel
theorem dX11_packMatches_89 : decode cX11_packMatches 89 = .ok (.invokevirtual 130, 3) := by decide +kernel
theorem dX11_packMatches_92 : decode cX11_packMatches 92 = .ok (.iload_n 3, 1) := by decide +kernel
theorem dX11_packMatches_93 : decode cX11_packMatches 93 = .ok (.istore_n 2, 1) := by decide +kernel
theorem dX11_packMatches_94 : decode cX11_packMatches 94 = .ok (.goto (-92), 3) := by decide +kernel
theorem dX11_packMatches_97 : decode cX11_packMatches 97 = .ok (.return_, 1) := by decide +kernel
theorem dX11_countBytes_0 : decode cX11_countBytes 0 = .ok (.iconst 0, 1) := by decide +kernel
theorem dX11_countBytes_1 : decode cX11_countBytes 1 = .ok (.istore_n 2, 1) := by decide +kernel
theorem dX11_countBytes_2 : decode cX11_countBytes 2 = .ok (.iconst 0, 1) := by decide +kernel
theorem dX11_countBytes_3 : decode cX11_countBytes 3 = .ok (.istore_n 3, 1) := by decide +kernel
theorem dX11_countBytes_4 : decode cX11_countBytes 4 = .ok (.iload_n 3, 1) := by decide +kernel
theorem dX11_countBytes_5 : decode cX11_countBytes 5 = .ok (.sipush 256, 3) := by decide +kernel
theorem dX11_countBytes_8 : decode cX11_countBytes 8 = .ok (.if_icmp .ge 16, 3) := by decide +kernel
theorem dX11_countBytes_11 : decode cX11_countBytes 11 = .ok (.aload_n 0, 1) := by decide +kernel
theorem dX11_countBytes_12 : decode cX11_countBytes 12 = .ok (.getfield 34, 3) := by decide +kernel
theorem dX11_countBytes_15 : decode cX11_countBytes 15 = .ok (.iload_n 3, 1) := by decide +kernel
theorem dX11_countBytes_16 : decode cX11_countBytes 16 = .ok (.iconst 0, 1) := by decide +kernel
theorem dX11_countBytes_17 : decode cX11_countBytes 17 = .ok (.iastore, 1) := by decide +kernel
theorem dX11_countBytes_18 : decode cX11_countBytes 18 = .ok (.iinc 3 1, 3) := by decide +kernel
theorem dX11_countBytes_21 : decode cX11_countBytes 21 = .ok (.goto (-17), 3) := by decide +kernel
theorem dX11_countBytes_24 : decode cX11_countBytes 24 = .ok (.iconst 0, 1) := by decide +kernel
theorem dX11_countBytes_25 : decode cX11_countBytes 25 = .ok (.istore_n 3, 1) := by decide +kernel
theorem dX11_countBytes_26 : decode cX11_countBytes 26 = .ok (.iload_n 3, 1) := by decide +kernel
theorem dX11_countBytes_27 : decode cX11_countBytes 27 = .ok (.iload_n 1, 1) := by decide +kernel
theorem dX11_countBytes_28 : decode cX11_countBytes 28 = .ok (.if_icmp .ge 46, 3) := by decide +kernel
theorem dX11_countBytes_31 : decode cX11_countBytes 31 = .ok (.iload_n 2, 1) := by decide +kernel
theorem dX11_countBytes_32 : decode cX11_countBytes 32 = .ok (.aload_n 0, 1) := by decide +kernel
theorem dX11_countBytes_33 : decode cX11_countBytes 33 = .ok (.getfield 34, 3) := by decide +kernel
theorem dX11_countBytes_36 : decode cX11_countBytes 36 = .ok (.aload_n 0, 1) := by decide +kernel
theorem dX11_countBytes_37 : decode cX11_countBytes 37 = .ok (.getfield 25, 3) := by decide +kernel
theorem dX11_countBytes_40 : decode cX11_countBytes 40 = .ok (.iload_n 3, 1) := by decide +kernel
theorem dX11_countBytes_41 : decode cX11_countBytes 41 = .ok (.iaload, 1) := by decide +kernel
theorem dX11_countBytes_42 : decode cX11_countBytes 42 = .ok (.iaload, 1) := by decide +kernel
theorem dX11_countBytes_43 : decode cX11_countBytes 43 = .ok (.ifCond .ne 7, 3) := by decide +kernel
theorem dX11_countBytes_46 : decode cX11_countBytes 46 = .ok (.iconst 1, 1) := by decide +kernel
theorem dX11_countBytes_47 : decode cX11_countBytes 47 = .ok (.goto 4, 3) := by decide +kernel
theorem dX11_countBytes_50 : decode cX11_countBytes 50 = .ok (.iconst 0, 1) := by decide +kernel
theorem dX11_countBytes_51 : decode cX11_countBytes 51 = .ok (.iadd, 1) := by decide +kernel
theorem dX11_countBytes_52 : decode cX11_countBytes 52 = .ok (.istore_n 2, 1) := by decide +kernel
theorem dX11_countBytes_53 : decode cX11_countBytes 53 = .ok (.aload_n 0, 1) := by decide +kernel
theorem dX11_countBytes_54 : decode cX11_countBytes 54 = .ok (.getfield 34, 3) := by decide +kernel
theorem dX11_countBytes_57 : decode cX11_countBytes 57 = .ok (.aload_n 0, 1) := by decide +kernel
theorem dX11_countBytes_58 : decode cX11_countBytes 58 = .ok (.getfield 25, 3) := by decide +kernel
theorem dX11_countBytes_61 : decode cX11_countBytes 61 = .ok (.iload_n 3, 1) := by decide +kernel
theorem dX11_countBytes_62 : decode cX11_countBytes 62 = .ok (.iaload, 1) := by decide +kernel
theorem dX11_countBytes_63 : decode cX11_countBytes 63 = .ok (.dup2, 1) := by decide +kernel
theorem dX11_countBytes_64 : decode cX11_countBytes 64 = .ok (.iaload, 1) := by decide +kernel
theorem dX11_countBytes_65 : decode cX11_countBytes 65 = .ok (.iconst 1, 1) := by decide +kernel
theorem dX11_countBytes_66 : decode cX11_countBytes 66 = .ok (.iadd, 1) := by decide +kernel
theorem dX11_countBytes_67 : decode cX11_countBytes 67 = .ok (.iastore, 1) := by decide +kernel
theorem dX11_countBytes_68 : decode cX11_countBytes 68 = .ok (.iinc 3 1, 3) := by decide +kernel
theorem dX11_countBytes_71 : decode cX11_countBytes 71 = .ok (.goto (-45), 3) := by decide +kernel
theorem dX11_countBytes_74 : decode cX11_countBytes 74 = .ok (.iload_n 2, 1) := by decide +kernel
theorem dX11_countBytes_75 : decode cX11_countBytes 75 = .ok (.ireturn, 1) := by decide +kernel
theorem dX11_packBits_0 : decode cX11_packBits 0 = .ok (.aload_n 0, 1) := by decide +kernel
theorem dX11_packBits_1 : decode cX11_packBits 1 = .ok (.iload_n 1, 1) := by decide +kernel
theorem dX11_packBits_2 : decode cX11_packBits 2 = .ok (.invokevirtual 143, 3) := by decide +kernel
theorem dX11_packBits_5 : decode cX11_packBits 5 = .ok (.istore_n 2, 1) := by decide +kernel
theorem dX11_packBits_6 : decode cX11_packBits 6 = .ok (.aload_n 0, 1) := by decide +kernel
theorem dX11_packBits_7 : decode cX11_packBits 7 = .ok (.iload_n 2, 1) := by decide +kernel
theorem dX11_packBits_8 : decode cX11_packBits 8 = .ok (.iconst 1, 1) := by decide +kernel
theorem dX11_packBits_9 : decode cX11_packBits 9 = .ok (.isub, 1) := by decide +kernel
theorem dX11_packBits_10 : decode cX11_packBits 10 = .ok (.invokevirtual 123, 3) := by decide +kernel
theorem dX11_packBits_13 : decode cX11_packBits 13 = .ok (.iconst 0, 1) := by decide +kernel
theorem dX11_packBits_14 : decode cX11_packBits 14 = .ok (.istore_n 3, 1) := by decide +kernel
theorem dX11_packBits_15 : decode cX11_packBits 15 = .ok (.iconst 0, 1) := by decide +kernel
theorem dX11_packBits_16 : decode cX11_packBits 16 = .ok (.istore 4, 2) := by decide +kernel
theorem dX11_packBits_18 : decode cX11_packBits 18 = .ok (.iload 4, 2) := by decide +kernel
theorem dX11_packBits_20 : decode cX11_packBits 20 = .ok (.sipush 256, 3) := by decide +kernel
theorem dX11_packBits_23 : decode cX11_packBits 23 = .ok (.if_icmp .ge 36, 3) := by decide +kernel
theorem dX11_packBits_26 : decode cX11_packBits 26 = .ok (.aload_n 0, 1) := by decide +kernel
theorem dX11_packBits_27 : decode cX11_packBits 27 = .ok (.getfield 34, 3) := by decide +kernel
theorem dX11_packBits_30 : decode cX11_packBits 30 = .ok (.iload 4, 2) := by decide +kernel
theorem dX11_packBits_32 : decode cX11_packBits 32 = .ok (.iaload, 1) := by decide +kernel
theorem dX11_packBits_33 : decode cX11_packBits 33 = .ok (.ifCond .le 20, 3) := by decide +kernel
theorem dX11_packBits_36 : decode cX11_packBits 36 = .ok (.aload_n 0, 1) := by decide +kernel
theorem dX11_packBits_37 : decode cX11_packBits 37 = .ok (.iload 4, 2) := by decide +kernel
theorem dX11_packBits_39 : decode cX11_packBits 39 = .ok (.invokevirtual 123, 3) := by decide +kernel
theorem dX11_packBits_42 : decode cX11_packBits 42 = .ok (.aload_n 0, 1) := by decide +kernel
theorem dX11_packBits_43 : decode cX11_packBits 43 = .ok (.getfield 40, 3) := by decide +kernel
theorem dX11_packBits_46 : decode cX11_packBits 46 = .ok (.iload 4, 2) := by decide +kernel
theorem dX11_packBits_48 : decode cX11_packBits 48 = .ok (.iload_n 3, 1) := by decide +kernel
theorem dX11_packBits_49 : decode cX11_packBits 49 = .ok (.iastore, 1) := by decide +kernel
theorem dX11_packBits_50 : decode cX11_packBits 50 = .ok (.iinc 3 1, 3) := by decide +kernel
theorem dX11_packBits_53 : decode cX11_packBits 53 = .ok (.iinc 4 1, 3) := by decide +kernel
theorem dX11_packBits_56 : decode cX11_packBits 56 = .ok (.goto (-38), 3) := by decide +kernel
theorem dX11_packBits_59 : decode cX11_packBits 59 = .ok (.iconst 0, 1) := by decide +kernel
theorem dX11_packBits_60 : decode cX11_packBits 60 = .ok (.istore 4, 2) := by decide +kernel
theorem dX11_packBits_62 : decode cX11_packBits 62 = .ok (.iload 4, 2) := by decide +kernel
theorem dX11_packBits_64 : decode cX11_packBits 64 = .ok (.iload_n 1, 1) := by decide +kernel
theorem dX11_packBits_65 : decode cX11_packBits 65 = .ok (.if_icmp .ge 29, 3) := by decide +kernel
theorem dX11_packBits_68 : decode cX11_packBits 68 = .ok (.aload_n 0, 1) := by decide +kernel
theorem dX11_packBits_69 : decode cX11_packBits 69 = .ok (.aload_n 0, 1) := by decide +kernel
theorem dX11_packBits_70 : decode cX11_packBits 70 = .ok (.getfield 40, 3) := by decide +kernel
theorem dX11_packBits_73 : decode cX11_packBits 73 = .ok (.aload_n 0, 1) := by decide +kernel
theorem dX11_packBits_74 : decode cX11_packBits 74 = .ok (.getfield 25, 3) := by decide +kernel
theorem dX11_packBits_77 : decode cX11_packBits 77 = .ok (.iload 4, 2) := by decide +kernel
theorem dX11_packBits_79 : decode cX11_packBits 79 = .ok (.iaload, 1) := by decide +kernel
theorem dX11_packBits_80 : decode cX11_packBits 80 = .ok (.iaload, 1) := by decide +kernel
theorem dX11_packBits_81 : decode cX11_packBits 81 = .ok (.iload_n 2, 1) := by decide +kernel
theorem dX11_packBits_82 : decode cX11_packBits 82 = .ok (.invokestatic 146, 3) := by decide +kernel
theorem dX11_packBits_85 : decode cX11_packBits 85 = .ok (.invokevirtual 149, 3) := by decide +kernel
theorem dX11_packBits_88 : decode cX11_packBits 88 = .ok (.iinc 4 1, 3) := by decide +kernel
theorem dX11_packBits_91 : decode cX11_packBits 91 = .ok (.goto (-29), 3) := by decide +kernel
theorem dX11_packBits_94 : decode cX11_packBits 94 = .ok (.return_, 1) := by decide +kernel
theorem dX11_least_0 : decode cX11_least 0 = .ok (.iconst (-1), 1) := by decide +kernel
theorem dX11_least_1 : decode cX11_least 1 = .ok (.istore_n 3, 1) := by decide +kernel
theorem dX11_least_2 : decode cX11_least 2 = .ok (.iconst 0, 1) := by decide +kernel
theorem dX11_least_3 : decode cX11_least 3 = .ok (.istore 4, 2) := by decide +kernel
theorem dX11_least_5 : decode cX11_least 5 = .ok (.iload 4, 2) := by decide +kernel
theorem dX11_least_7 : decode cX11_least 7 = .ok (.iload_n 1, 1) := by decide +kernel
theorem dX11_least_8 : decode cX11_least 8 = .ok (.if_icmp .ge 64, 3) := by decide +kernel
theorem dX11_least_11 : decode cX11_least 11 = .ok (.aload_n 0, 1) := by decide +kernel
theorem dX11_least_12 : decode cX11_least 12 = .ok (.getfield 46, 3) := by decide +kernel
theorem dX11_least_15 : decode cX11_least 15 = .ok (.iload 4, 2) := by decide +kernel
theorem dX11_least_17 : decode cX11_least 17 = .ok (.iaload, 1) := by decide +kernel
theorem dX11_least_18 : decode cX11_least 18 = .ok (.ifCond .ge 13, 3) := by decide +kernel
theorem dX11_least_21 : decode cX11_least 21 = .ok (.iload 4, 2) := by decide +kernel
theorem dX11_least_23 : decode cX11_least 23 = .ok (.iload_n 2, 1) := by decide +kernel
theorem dX11_least_24 : decode cX11_least 24 = .ok (.if_icmp .eq 7, 3) := by decide +kernel
theorem dX11_least_27 : decode cX11_least 27 = .ok (.iconst 1, 1) := by decide +kernel
theorem dX11_least_28 : decode cX11_least 28 = .ok (.goto 4, 3) := by decide +kernel
theorem dX11_least_31 : decode cX11_least 31 = .ok (.iconst 0, 1) := by decide +kernel
theorem dX11_least_32 : decode cX11_least 32 = .ok (.istore 5, 2) := by decide +kernel
theorem dX11_least_34 : decode cX11_least 34 = .ok (.iload 5, 2) := by decide +kernel
theorem dX11_least_36 : decode cX11_least 36 = .ok (.ifCond .eq 28, 3) := by decide +kernel
theorem dX11_least_39 : decode cX11_least 39 = .ok (.iload_n 3, 1) := by decide +kernel
theorem dX11_least_40 : decode cX11_least 40 = .ok (.ifCond .lt 19, 3) := by decide +kernel
theorem dX11_least_43 : decode cX11_least 43 = .ok (.aload_n 0, 1) := by decide +kernel
theorem dX11_least_44 : decode cX11_least 44 = .ok (.getfield 43, 3) := by decide +kernel
theorem dX11_least_47 : decode cX11_least 47 = .ok (.iload 4, 2) := by decide +kernel
theorem dX11_least_49 : decode cX11_least 49 = .ok (.iaload, 1) := by decide +kernel
theorem dX11_least_50 : decode cX11_least 50 = .ok (.aload_n 0, 1) := by decide +kernel
theorem dX11_least_51 : decode cX11_least 51 = .ok (.getfield 43, 3) := by decide +kernel
theorem dX11_least_54 : decode cX11_least 54 = .ok (.iload_n 3, 1) := by decide +kernel
theorem dX11_least_55 : decode cX11_least 55 = .ok (.iaload, 1) := by decide +kernel
theorem dX11_least_56 : decode cX11_least 56 = .ok (.if_icmp .ge 8, 3) := by decide +kernel
theorem dX11_least_59 : decode cX11_least 59 = .ok (.iload 4, 2) := by decide +kernel
theorem dX11_least_61 : decode cX11_least 61 = .ok (.goto 4, 3) := by decide +kernel
theorem dX11_least_64 : decode cX11_least 64 = .ok (.iload_n 3, 1) := by decide +kernel
theorem dX11_least_65 : decode cX11_least 65 = .ok (.istore_n 3, 1) := by decide +kernel
theorem dX11_least_66 : decode cX11_least 66 = .ok (.iinc 4 1, 3) := by decide +kernel
theorem dX11_least_69 : decode cX11_least 69 = .ok (.goto (-64), 3) := by decide +kernel
theorem dX11_least_72 : decode cX11_least 72 = .ok (.iload_n 3, 1) := by decide +kernel
theorem dX11_least_73 : decode cX11_least 73 = .ok (.ireturn, 1) := by decide +kernel
theorem dX11_findLengths_0 : decode cX11_findLengths 0 = .ok (.iconst 0, 1) := by decide +kernel
theorem dX11_findLengths_1 : decode cX11_findLengths 1 = .ok (.istore_n 2, 1) := by decide +kernel
theorem dX11_findLengths_2 : decode cX11_findLengths 2 = .ok (.iconst 0, 1) := by decide +kernel
theorem dX11_findLengths_3 : decode cX11_findLengths 3 = .ok (.istore_n 3, 1) := by decide +kernel
theorem dX11_findLengths_4 : decode cX11_findLengths 4 = .ok (.iload_n 3, 1) := by decide +kernel
theorem dX11_findLengths_5 : decode cX11_findLengths 5 = .ok (.sipush 256, 3) := by decide +kernel
theorem dX11_findLengths_8 : decode cX11_findLengths 8 = .ok (.if_icmp .ge 40, 3) := by decide +kernel
theorem dX11_findLengths_11 : decode cX11_findLengths 11 = .ok (.aload_n 0, 1) := by decide +kernel
theorem dX11_findLengths_12 : decode cX11_findLengths 12 = .ok (.getfield 34, 3) := by decide +kernel
theorem dX11_findLengths_15 : decode cX11_findLengths 15 = .ok (.iload_n 3, 1) := by decide +kernel
theorem dX11_findLengths_16 : decode cX11_findLengths 16 = .ok (.iaload, 1) := by decide +kernel
theorem dX11_findLengths_17 : decode cX11_findLengths 17 = .ok (.ifCond .le 25, 3) := by decide +kernel
theorem dX11_findLengths_20 : decode cX11_findLengths 20 = .ok (.aload_n 0, 1) := by decide +kernel
theorem dX11_findLengths_21 : decode cX11_findLengths 21 = .ok (.getfield 43, 3) := by decide +kernel
theorem dX11_findLengths_24 : decode cX11_findLengths 24 = .ok (.iload_n 2, 1) := by decide +kernel
theorem dX11_findLengths_25 : decode cX11_findLengths 25 = .ok (.aload_n 0, 1) := by decide +kernel
theorem dX11_findLengths_26 : decode cX11_findLengths 26 = .ok (.getfield 34, 3) := by decide +kernel
theorem dX11_findLengths_29 : decode cX11_findLengths 29 = .ok (.iload_n 3, 1) := by decide +kernel
theorem dX11_findLengths_30 : decode cX11_findLengths 30 = .ok (.iaload, 1) := by decide +kernel
theorem dX11_findLengths_31 : decode cX11_findLengths 31 = .ok (.iastore, 1) := by decide +kernel
theorem dX11_findLengths_32 : decode cX11_findLengths 32 = .ok (.aload_n 0, 1) := by decide +kernel
theorem dX11_findLengths_33 : decode cX11_findLengths 33 = .ok (.getfield 46, 3) := by decide +kernel
theorem dX11_findLengths_36 : decode cX11_findLengths 36 = .ok (.iload_n 2, 1) := by decide +kernel
theorem dX11_findLengths_37 : decode cX11_findLengths 37 = .ok (.iconst (-1), 1) := by decide +kernel
theorem dX11_findLengths_38 : decode cX11_findLengths 38 = .ok (.iastore, 1) := by decide +kernel
theorem dX11_findLengths_39 : decode cX11_findLengths 39 = .ok (.iinc 2 1, 3) := by decide +kernel
theorem dX11_findLengths_42 : decode cX11_findLengths 42 = .ok (.iinc 3 1, 3) := by decide +kernel
theorem dX11_findLengths_45 : decode cX11_findLengths 45 = .ok (.goto (-41), 3) := by decide +kernel
theorem dX11_findLengths_48 : decode cX11_findLengths 48 = .ok (.iload_n 1, 1) := by decide +kernel
theorem dX11_findLengths_49 : decode cX11_findLengths 49 = .ok (.istore_n 3, 1) := by decide +kernel
theorem dX11_findLengths_50 : decode cX11_findLengths 50 = .ok (.iload_n 3, 1) := by decide +kernel
theorem dX11_findLengths_51 : decode cX11_findLengths 51 = .ok (.iconst 1, 1) := by decide +kernel
theorem dX11_findLengths_52 : decode cX11_findLengths 52 = .ok (.if_icmp .le 73, 3) := by decide +kernel
theorem dX11_findLengths_55 : decode cX11_findLengths 55 = .ok (.aload_n 0, 1) := by decide +kernel
theorem dX11_findLengths_56 : decode cX11_findLengths 56 = .ok (.iload_n 2, 1) := by decide +kernel
theorem dX11_findLengths_57 : decode cX11_findLengths 57 = .ok (.iconst (-1), 1) := by decide +kernel
theorem dX11_findLengths_58 : decode cX11_findLengths 58 = .ok (.invokevirtual 152, 3) := by decide +kernel
theorem dX11_findLengths_61 : decode cX11_findLengths 61 = .ok (.istore 4, 2) := by decide +kernel
theorem dX11_findLengths_63 : decode cX11_findLengths 63 = .ok (.aload_n 0, 1) := by decide +kernel
theorem dX11_findLengths_64 : decode cX11_findLengths 64 = .ok (.iload_n 2, 1) := by decide +kernel
theorem dX11_findLengths_65 : decode cX11_findLengths 65 = .ok (.iload 4, 2) := by decide +kernel
theorem dX11_findLengths_67 : decode cX11_findLengths 67 = .ok (.invokevirtual 152, 3) := by decide +kernel
theorem dX11_findLengths_70 : decode cX11_findLengths 70 = .ok (.istore 5, 2) := by decide +kernel
theorem dX11_findLengths_72 : decode cX11_findLengths 72 = .ok (.aload_n 0, 1) := by decide +kernel
theorem dX11_findLengths_73 : decode cX11_findLengths 73 = .ok (.getfield 43, 3) := by decide +kernel
theorem dX11_findLengths_76 : decode cX11_findLengths 76 = .ok (.iload_n 2, 1) := by decide +kernel
theorem dX11_findLengths_77 : decode cX11_findLengths 77 = .ok (.aload_n 0, 1) := by decide +kernel
theorem dX11_findLengths_78 : decode cX11_findLengths 78 = .ok (.getfield 43, 3) := by decide +kernel
theorem dX11_findLengths_81 : decode cX11_findLengths 81 = .ok (.iload 4, 2) := by decide +kernel
theorem dX11_findLengths_83 : decode cX11_findLengths 83 = .ok (.iaload, 1) := by decide +kernel
theorem dX11_findLengths_84 : decode cX11_findLengths 84 = .ok (.aload_n 0, 1) := by decide +kernel
theorem dX11_findLengths_85 : decode cX11_findLengths 85 = .ok (.getfield 43, 3) := by decide +kernel
theorem dX11_findLengths_88 : decode cX11_findLengths 88 = .ok (.iload 5, 2) := by decide +kernel
theorem dX11_findLengths_90 : decode cX11_findLengths 90 = .ok (.iaload, 1) := by decide +kernel
theorem dX11_findLengths_91 : decode cX11_findLengths 91 = .ok (.iadd, 1) := by decide +kernel
theorem dX11_findLengths_92 : decode cX11_findLengths 92 = .ok (.iastore, 1) := by decide +kernel
theorem dX11_findLengths_93 : decode cX11_findLengths 93 = .ok (.aload_n 0, 1) := by decide +kernel
theorem dX11_findLengths_94 : decode cX11_findLengths 94 = .ok (.getfield 46, 3) := by decide +kernel
theorem dX11_findLengths_97 : decode cX11_findLengths 97 = .ok (.iload_n 2, 1) := by decide +kernel
theorem dX11_findLengths_98 : decode cX11_findLengths 98 = .ok (.iconst (-1), 1) := by decide +kernel
theorem dX11_findLengths_99 : decode cX11_findLengths 99 = .ok (.iastore, 1) := by decide +kernel
theorem dX11_findLengths_100 : decode cX11_findLengths 100 = .ok (.aload_n 0, 1) := by decide +kernel
theorem dX11_findLengths_101 : decode cX11_findLengths 101 = .ok (.getfield 46, 3) := by decide +kernel
theorem dX11_findLengths_104 : decode cX11_findLengths 104 = .ok (.iload 4, 2) := by decide +kernel
theorem dX11_findLengths_106 : decode cX11_findLengths 106 = .ok (.iload_n 2, 1) := by decide +kernel
theorem dX11_findLengths_107 : decode cX11_findLengths 107 = .ok (.iastore, 1) := by decide +kernel
theorem dX11_findLengths_108 : decode cX11_findLengths 108 = .ok (.aload_n 0, 1) := by decide +kernel
theorem dX11_findLengths_109 : decode cX11_findLengths 109 = .ok (.getfield 46, 3) := by decide +kernel
theorem dX11_findLengths_112 : decode cX11_findLengths 112 = .ok (.iload 5, 2) := by decide +kernel
theorem dX11_findLengths_114 : decode cX11_findLengths 114 = .ok (.iload_n 2, 1) := by decide +kernel
theorem dX11_findLengths_115 : decode cX11_findLengths 115 = .ok (.iastore, 1) := by decide +kernel
theorem dX11_findLengths_116 : decode cX11_findLengths 116 = .ok (.iinc 2 1, 3) := by decide +kernel
theorem dX11_findLengths_119 : decode cX11_findLengths 119 = .ok (.iinc 3 (-1), 3) := by decide +kernel
theorem dX11_findLengths_122 : decode cX11_findLengths 122 = .ok (.goto (-72), 3) := by decide +kernel
theorem dX11_findLengths_125 : decode cX11_findLengths 125 = .ok (.iconst 0, 1) := by decide +kernel
theorem dX11_findLengths_126 : decode cX11_findLengths 126 = .ok (.istore_n 3, 1) := by decide +kernel
theorem dX11_findLengths_127 : decode cX11_findLengths 127 = .ok (.iconst 0, 1) := by decide +kernel
theorem dX11_findLengths_128 : decode cX11_findLengths 128 = .ok (.istore 4, 2) := by decide +kernel
theorem dX11_findLengths_130 : decode cX11_findLengths 130 = .ok (.iload 4, 2) := by decide +kernel
theorem dX11_findLengths_132 : decode cX11_findLengths 132 = .ok (.sipush 256, 3) := by decide +kernel
theorem dX11_findLengths_135 : decode cX11_findLengths 135 = .ok (.if_icmp .ge 89, 3) := by decide +kernel
theorem dX11_findLengths_138 : decode cX11_findLengths 138 = .ok (.aload_n 0, 1) := by decide +kernel
theorem dX11_findLengths_139 : decode cX11_findLengths 139 = .ok (.getfield 37, 3) := by decide +kernel
theorem dX11_findLengths_142 : decode cX11_findLengths 142 = .ok (.iload 4, 2) := by decide +kernel
theorem dX11_findLengths_144 : decode cX11_findLengths 144 = .ok (.iconst 0, 1) := by decide +kernel
theorem dX11_findLengths_145 : decode cX11_findLengths 145 = .ok (.iastore, 1) := by decide +kernel
theorem dX11_findLengths_146 : decode cX11_findLengths 146 = .ok (.aload_n 0, 1) := by decide +kernel
theorem dX11_findLengths_147 : decode cX11_findLengths 147 = .ok (.getfield 34, 3) := by decide +kernel
theorem dX11_findLengths_150 : decode cX11_findLengths 150 = .ok (.iload 4, 2) := by decide +kernel
theorem dX11_findLengths_152 : decode cX11_findLengths 152 = .ok (.iaload, 1) := by decide +kernel
theorem dX11_findLengths_153 : decode cX11_findLengths 153 = .ok (.ifCond .le 65, 3) := by decide +kernel
theorem dX11_findLengths_156 : decode cX11_findLengths 156 = .ok (.aload_n 0, 1) := by decide +kernel
theorem dX11_findLengths_157 : decode cX11_findLengths 157 = .ok (.getfield 46, 3) := by decide +kernel
theorem dX11_findLengths_160 : decode cX11_findLengths 160 = .ok (.iload_n 3, 1) := by decide +kernel
theorem dX11_findLengths_161 : decode cX11_findLengths 161 = .ok (.iaload, 1) := by decide +kernel
theorem dX11_findLengths_162 : decode cX11_findLengths 162 = .ok (.istore 5, 2) := by decide +kernel
theorem dX11_findLengths_164 : decode cX11_findLengths 164 = .ok (.iload 5, 2) := by decide +kernel
theorem dX11_findLengths_166 : decode cX11_findLengths 166 = .ok (.ifCond .lt 26, 3) := by decide +kernel
theorem dX11_findLengths_169 : decode cX11_findLengths 169 = .ok (.aload_n 0, 1) := by decide +kernel
theorem dX11_findLengths_170 : decode cX11_findLengths 170 = .ok (.getfield 37, 3) := by decide +kernel
theorem dX11_findLengths_173 : decode cX11_findLengths 173 = .ok (.iload 4, 2) := by decide +kernel
theorem dX11_findLengths_175 : decode cX11_findLengths 175 = .ok (.dup2, 1) := by decide +kernel
theorem dX11_findLengths_176 : decode cX11_findLengths 176 = .ok (.iaload, 1) := by decide +kernel
theorem dX11_findLengths_177 : decode cX11_findLengths 177 = .ok (.iconst 1, 1) := by decide +kernel
theorem dX11_findLengths_178 : decode cX11_findLengths 178 = .ok (.iadd, 1) := by decide +kernel
theorem dX11_findLengths_179 : decode cX11_findLengths 179 = .ok (.iastore, 1) := by decide +kernel
theorem dX11_findLengths_180 : decode cX11_findLengths 180 = .ok (.aload_n 0, 1) := by decide +kernel
theorem dX11_findLengths_181 : decode cX11_findLengths 181 = .ok (.getfield 46, 3) := by decide +kernel
theorem dX11_findLengths_184 : decode cX11_findLengths 184 = .ok (.iload 5, 2) := by decide +kernel
theorem dX11_findLengths_186 : decode cX11_findLengths 186 = .ok (.iaload, 1) := by decide +kernel
theorem dX11_findLengths_187 : decode cX11_findLengths 187 = .ok (.istore 5, 2) := by decide +kernel
theorem dX11_findLengths_189 : decode cX11_findLengths 189 = .ok (.goto (-25), 3) := by decide +kernel
theorem dX11_findLengths_192 : decode cX11_findLengths 192 = .ok (.aload_n 0, 1) := by decide +kernel
theorem dX11_findLengths_193 : decode cX11_findLengths 193 = .ok (.getfield 37, 3) := by decide +kernel
theorem dX11_findLengths_196 : decode cX11_findLengths 196 = .ok (.iload 4, 2) := by decide +kernel
theorem dX11_findLengths_198 : decode cX11_findLengths 198 = .ok (.iload_n 1, 1) := by decide +kernel
theorem dX11_findLengths_199 : decode cX11_findLengths 199 = .ok (.iconst 1, 1) := by decide +kernel
theorem dX11_findLengths_200 : decode cX11_findLengths 200 = .ok (.if_icmp .ne 7, 3) := by decide +kernel
theorem dX11_findLengths_203 : decode cX11_findLengths 203 = .ok (.iconst 1, 1) := by decide +kernel
theorem dX11_findLengths_204 : decode cX11_findLengths 204 = .ok (.goto 10, 3) := by decide +kernel
theorem dX11_findLengths_207 : decode cX11_findLengths 207 = .ok (.aload_n 0, 1) := by decide +kernel
theorem dX11_findLengths_208 : decode cX11_findLengths 208 = .ok (.getfield 37, 3) := by decide +kernel
theorem dX11_findLengths_211 : decode cX11_findLengths 211 = .ok (.iload 4, 2) := by decide +kernel
theorem dX11_findLengths_213 : decode cX11_findLengths 213 = .ok (.iaload, 1) := by decide +kernel
theorem dX11_findLengths_214 : decode cX11_findLengths 214 = .ok (.iastore, 1) := by decide +kernel
theorem dX11_findLengths_215 : decode cX11_findLengths 215 = .ok (.iinc 3 1, 3) := by decide +kernel
theorem dX11_findLengths_218 : decode cX11_findLengths 218 = .ok (.iinc 4 1, 3) := by decide +kernel
theorem dX11_findLengths_221 : decode cX11_findLengths 221 = .ok (.goto (-91), 3) := by decide +kernel
theorem dX11_findLengths_224 : decode cX11_findLengths 224 = .ok (.return_, 1) := by decide +kernel
theorem dX11_findCodes_0 : decode cX11_findCodes 0 = .ok (.iconst 0, 1) := by decide +kernel
theorem dX11_findCodes_1 : decode cX11_findCodes 1 = .ok (.istore_n 1, 1) := by decide +kernel
theorem dX11_findCodes_2 : decode cX11_findCodes 2 = .ok (.iconst 1, 1) := by decide +kernel
theorem dX11_findCodes_3 : decode cX11_findCodes 3 = .ok (.istore_n 2, 1) := by decide +kernel
theorem dX11_findCodes_4 : decode cX11_findCodes 4 = .ok (.iload_n 2, 1) := by decide +kernel
theorem dX11_findCodes_5 : decode cX11_findCodes 5 = .ok (.bipush 16, 2) := by decide +kernel
theorem dX11_findCodes_7 : decode cX11_findCodes 7 = .ok (.if_icmp .ge 48, 3) := by decide +kernel
theorem dX11_findCodes_10 : decode cX11_findCodes 10 = .ok (.iload_n 1, 1) := by decide +kernel
theorem dX11_findCodes_11 : decode cX11_findCodes 11 = .ok (.iconst 1, 1) := by decide +kernel
theorem dX11_findCodes_12 : decode cX11_findCodes 12 = .ok (.ishl, 1) := by decide +kernel
theorem dX11_findCodes_13 : decode cX11_findCodes 13 = .ok (.istore_n 1, 1) := by decide +kernel
theorem dX11_findCodes_14 : decode cX11_findCodes 14 = .ok (.iconst 0, 1) := by decide +kernel
theorem dX11_findCodes_15 : decode cX11_findCodes 15 = .ok (.istore_n 3, 1) := by decide +kernel
theorem dX11_findCodes_16 : decode cX11_findCodes 16 = .ok (.iload_n 3, 1) := by decide +kernel
theorem dX11_findCodes_17 : decode cX11_findCodes 17 = .ok (.sipush 256, 3) := by decide +kernel
theorem dX11_findCodes_20 : decode cX11_findCodes 20 = .ok (.if_icmp .ge 29, 3) := by decide +kernel
theorem dX11_findCodes_23 : decode cX11_findCodes 23 = .ok (.aload_n 0, 1) := by decide +kernel
theorem dX11_findCodes_24 : decode cX11_findCodes 24 = .ok (.getfield 37, 3) := by decide +kernel
theorem dX11_findCodes_27 : decode cX11_findCodes 27 = .ok (.iload_n 3, 1) := by decide +kernel
theorem dX11_findCodes_28 : decode cX11_findCodes 28 = .ok (.iaload, 1) := by decide +kernel
theorem dX11_findCodes_29 : decode cX11_findCodes 29 = .ok (.iload_n 2, 1) := by decide +kernel
theorem dX11_findCodes_30 : decode cX11_findCodes 30 = .ok (.if_icmp .ne 13, 3) := by decide +kernel
theorem dX11_findCodes_33 : decode cX11_findCodes 33 = .ok (.aload_n 0, 1) := by decide +kernel
theorem dX11_findCodes_34 : decode cX11_findCodes 34 = .ok (.getfield 40, 3) := by decide +kernel
theorem dX11_findCodes_37 : decode cX11_findCodes 37 = .ok (.iload_n 3, 1) := by decide +kernel
theorem dX11_findCodes_38 : decode cX11_findCodes 38 = .ok (.iload_n 1, 1) := by decide +kernel
theorem dX11_findCodes_39 : decode cX11_findCodes 39 = .ok (.iastore, 1) := by decide +kernel
theorem dX11_findCodes_40 : decode cX11_findCodes 40 = .ok (.iinc 1 1, 3) := by decide +kernel
theorem dX11_findCodes_43 : decode cX11_findCodes 43 = .ok (.iinc 3 1, 3) := by decide +kernel
theorem dX11_findCodes_46 : decode cX11_findCodes 46 = .ok (.goto (-30), 3) := by decide +kernel
theorem dX11_findCodes_49 : decode cX11_findCodes 49 = .ok (.iinc 2 1, 3) := by decide +kernel
theorem dX11_findCodes_52 : decode cX11_findCodes 52 = .ok (.goto (-48), 3) := by decide +kernel
theorem dX11_findCodes_55 : decode cX11_findCodes 55 = .ok (.return_, 1) := by decide +kernel
theorem dX11_packPrefix_0 : decode cX11_packPrefix 0 = .ok (.aload_n 0, 1) := by decide +kernel
theorem dX11_packPrefix_1 : decode cX11_packPrefix 1 = .ok (.iload_n 1, 1) := by decide +kernel
theorem dX11_packPrefix_2 : decode cX11_packPrefix 2 = .ok (.invokevirtual 143, 3) := by decide +kernel
theorem dX11_packPrefix_5 : decode cX11_packPrefix 5 = .ok (.istore_n 2, 1) := by decide +kernel
theorem dX11_packPrefix_6 : decode cX11_packPrefix 6 = .ok (.aload_n 0, 1) := by decide +kernel
theorem dX11_packPrefix_7 : decode cX11_packPrefix 7 = .ok (.iload_n 2, 1) := by decide +kernel
theorem dX11_packPrefix_8 : decode cX11_packPrefix 8 = .ok (.invokevirtual 155, 3) := by decide +kernel
theorem dX11_packPrefix_11 : decode cX11_packPrefix 11 = .ok (.aload_n 0, 1) := by decide +kernel
theorem dX11_packPrefix_12 : decode cX11_packPrefix 12 = .ok (.invokevirtual 158, 3) := by decide +kernel
theorem dX11_packPrefix_15 : decode cX11_packPrefix 15 = .ok (.aload_n 0, 1) := by decide +kernel
theorem dX11_packPrefix_16 : decode cX11_packPrefix 16 = .ok (.iload_n 2, 1) := by decide +kernel
theorem dX11_packPrefix_17 : decode cX11_packPrefix 17 = .ok (.iconst 1, 1) := by decide +kernel
theorem dX11_packPrefix_18 : decode cX11_packPrefix 18 = .ok (.isub, 1) := by decide +kernel
theorem dX11_packPrefix_19 : decode cX11_packPrefix 19 = .ok (.invokevirtual 123, 3) := by decide +kernel
theorem dX11_packPrefix_22 : decode cX11_packPrefix 22 = .ok (.iconst 0, 1) := by decide +kernel
theorem dX11_packPrefix_23 : decode cX11_packPrefix 23 = .ok (.istore_n 3, 1) := by decide +kernel
theorem dX11_packPrefix_24 : decode cX11_packPrefix 24 = .ok (.iload_n 3, 1) := by decide +kernel
theorem dX11_packPrefix_25 : decode cX11_packPrefix 25 = .ok (.sipush 256, 3) := by decide +kernel
theorem dX11_packPrefix_28 : decode cX11_packPrefix 28 = .ok (.if_icmp .ge 33, 3) := by decide +kernel
theorem dX11_packPrefix_31 : decode cX11_packPrefix 31 = .ok (.aload_n 0, 1) := by decide +kernel
theorem dX11_packPrefix_32 : decode cX11_packPrefix 32 = .ok (.getfield 34, 3) := by decide +kernel
theorem dX11_packPrefix_35 : decode cX11_packPrefix 35 = .ok (.iload_n 3, 1) := by decide +kernel
theorem dX11_packPrefix_36 : decode cX11_packPrefix 36 = .ok (.iaload, 1) := by decide +kernel
theorem dX11_packPrefix_37 : decode cX11_packPrefix 37 = .ok (.ifCond .le 18, 3) := by decide +kernel
theorem dX11_packPrefix_40 : decode cX11_packPrefix 40 = .ok (.aload_n 0, 1) := by decide +kernel
theorem dX11_packPrefix_41 : decode cX11_packPrefix 41 = .ok (.iload_n 3, 1) := by decide +kernel
theorem dX11_packPrefix_42 : decode cX11_packPrefix 42 = .ok (.invokevirtual 123, 3) := by decide +kernel
theorem dX11_packPrefix_45 : decode cX11_packPrefix 45 = .ok (.aload_n 0, 1) := by decide +kernel
theorem dX11_packPrefix_46 : decode cX11_packPrefix 46 = .ok (.aload_n 0, 1) := by decide +kernel
theorem dX11_packPrefix_47 : decode cX11_packPrefix 47 = .ok (.getfield 37, 3) := by decide +kernel
theorem dX11_packPrefix_50 : decode cX11_packPrefix 50 = .ok (.iload_n 3, 1) := by decide +kernel
theorem dX11_packPrefix_51 : decode cX11_packPrefix 51 = .ok (.iaload, 1) := by decide +kernel
theorem dX11_packPrefix_52 : decode cX11_packPrefix 52 = .ok (.invokevirtual 123, 3) := by decide +kernel
theorem dX11_packPrefix_55 : decode cX11_packPrefix 55 = .ok (.iinc 3 1, 3) := by decide +kernel
theorem dX11_packPrefix_58 : decode cX11_packPrefix 58 = .ok (.goto (-34), 3) := by decide +kernel
theorem dX11_packPrefix_61 : decode cX11_packPrefix 61 = .ok (.iconst 0, 1) := by decide +kernel
theorem dX11_packPrefix_62 : decode cX11_packPrefix 62 = .ok (.istore_n 3, 1) := by decide +kernel
theorem dX11_packPrefix_63 : decode cX11_packPrefix 63 = .ok (.iload_n 3, 1) := by decide +kernel
theorem dX11_packPrefix_64 : decode cX11_packPrefix 64 = .ok (.iload_n 1, 1) := by decide +kernel
theorem dX11_packPrefix_65 : decode cX11_packPrefix 65 = .ok (.if_icmp .ge 35, 3) := by decide +kernel
theorem dX11_packPrefix_68 : decode cX11_packPrefix 68 = .ok (.aload_n 0, 1) := by decide +kernel
theorem dX11_packPrefix_69 : decode cX11_packPrefix 69 = .ok (.aload_n 0, 1) := by decide +kernel
theorem dX11_packPrefix_70 : decode cX11_packPrefix 70 = .ok (.getfield 40, 3) := by decide +kernel
theorem dX11_packPrefix_73 : decode cX11_packPrefix 73 = .ok (.aload_n 0, 1) := by decide +kernel
theorem dX11_packPrefix_74 : decode cX11_packPrefix 74 = .ok (.getfield 25, 3) := by decide +kernel
theorem dX11_packPrefix_77 : decode cX11_packPrefix 77 = .ok (.iload_n 3, 1) := by decide +kernel
theorem dX11_packPrefix_78 : decode cX11_packPrefix 78 = .ok (.iaload, 1) := by decide +kernel
theorem dX11_packPrefix_79 : decode cX11_packPrefix 79 = .ok (.iaload, 1) := by decide +kernel
theorem dX11_packPrefix_80 : decode cX11_packPrefix 80 = .ok (.aload_n 0, 1) := by decide +kernel
theorem dX11_packPrefix_81 : decode cX11_packPrefix 81 = .ok (.getfield 37, 3) := by decide +kernel
theorem dX11_packPrefix_84 : decode cX11_packPrefix 84 = .ok (.aload_n 0, 1) := by decide +kernel
theorem dX11_packPrefix_85 : decode cX11_packPrefix 85 = .ok (.getfield 25, 3) := by decide +kernel
theorem dX11_packPrefix_88 : decode cX11_packPrefix 88 = .ok (.iload_n 3, 1) := by decide +kernel
theorem dX11_packPrefix_89 : decode cX11_packPrefix 89 = .ok (.iaload, 1) := by decide +kernel
theorem dX11_packPrefix_90 : decode cX11_packPrefix 90 = .ok (.iaload, 1) := by decide +kernel
theorem dX11_packPrefix_91 : decode cX11_packPrefix 91 = .ok (.invokevirtual 149, 3) := by decide +kernel
theorem dX11_packPrefix_94 : decode cX11_packPrefix 94 = .ok (.iinc 3 1, 3) := by decide +kernel
theorem dX11_packPrefix_97 : decode cX11_packPrefix 97 = .ok (.goto (-34), 3) := by decide +kernel
theorem dX11_packPrefix_100 : decode cX11_packPrefix 100 = .ok (.return_, 1) := by decide +kernel
theorem dX11_putFilter_0 : decode cX11_putFilter 0 = .ok (.iload_n 1, 1) := by decide +kernel
theorem dX11_putFilter_1 : decode cX11_putFilter 1 = .ok (.ifCond .lt 44, 3) := by decide +kernel
theorem dX11_putFilter_4 : decode cX11_putFilter 4 = .ok (.aload_n 0, 1) := by decide +kernel
theorem dX11_putFilter_5 : decode cX11_putFilter 5 = .ok (.aload_n 0, 1) := by decide +kernel
theorem dX11_putFilter_6 : decode cX11_putFilter 6 = .ok (.getfield 16, 3) := by decide +kernel
theorem dX11_putFilter_9 : decode cX11_putFilter 9 = .ok (.iload_n 1, 1) := by decide +kernel
theorem dX11_putFilter_10 : decode cX11_putFilter 10 = .ok (.iaload, 1) := by decide +kernel
theorem dX11_putFilter_11 : decode cX11_putFilter 11 = .ok (.invokevirtual 123, 3) := by decide +kernel
theorem dX11_putFilter_14 : decode cX11_putFilter 14 = .ok (.aload_n 0, 1) := by decide +kernel
theorem dX11_putFilter_15 : decode cX11_putFilter 15 = .ok (.aload_n 0, 1) := by decide +kernel
theorem dX11_putFilter_16 : decode cX11_putFilter 16 = .ok (.getfield 19, 3) := by decide +kernel
theorem dX11_putFilter_19 : decode cX11_putFilter 19 = .ok (.iload_n 1, 1) := by decide +kernel
theorem dX11_putFilter_20 : decode cX11_putFilter 20 = .ok (.iaload, 1) := by decide +kernel
theorem dX11_putFilter_21 : decode cX11_putFilter 21 = .ok (.invokevirtual 123, 3) := by decide +kernel
theorem dX11_putFilter_24 : decode cX11_putFilter 24 = .ok (.aload_n 0, 1) := by decide +kernel
theorem dX11_putFilter_25 : decode cX11_putFilter 25 = .ok (.aload_n 0, 1) := by decide +kernel
theorem dX11_putFilter_26 : decode cX11_putFilter 26 = .ok (.getfield 16, 3) := by decide +kernel
theorem dX11_putFilter_29 : decode cX11_putFilter 29 = .ok (.iload_n 1, 1) := by decide +kernel
theorem dX11_putFilter_30 : decode cX11_putFilter 30 = .ok (.iaload, 1) := by decide +kernel
theorem dX11_putFilter_31 : decode cX11_putFilter 31 = .ok (.aload_n 0, 1) := by decide +kernel
theorem dX11_putFilter_32 : decode cX11_putFilter 32 = .ok (.getfield 19, 3) := by decide +kernel
theorem dX11_putFilter_35 : decode cX11_putFilter 35 = .ok (.iload_n 1, 1) := by decide +kernel
theorem dX11_putFilter_36 : decode cX11_putFilter 36 = .ok (.iaload, 1) := by decide +kernel
theorem dX11_putFilter_37 : decode cX11_putFilter 37 = .ok (.aload_n 0, 1) := by decide +kernel
theorem dX11_putFilter_38 : decode cX11_putFilter 38 = .ok (.getfield 72, 3) := by decide +kernel
theorem dX11_putFilter_41 : decode cX11_putFilter 41 = .ok (.iconst 0, 1) := by decide +kernel
theorem dX11_putFilter_42 : decode cX11_putFilter 42 = .ok (.invokevirtual 161, 3) := by decide +kernel
theorem dX11_putFilter_45 : decode cX11_putFilter 45 = .ok (.return_, 1) := by decide +kernel
theorem dX11_packAll_0 : decode cX11_packAll 0 = .ok (.aload_n 0, 1) := by decide +kernel
theorem dX11_packAll_1 : decode cX11_packAll 1 = .ok (.iload_n 1, 1) := by decide +kernel
theorem dX11_packAll_2 : decode cX11_packAll 2 = .ok (.invokevirtual 165, 3) := by decide +kernel
theorem dX11_packAll_5 : decode cX11_packAll 5 = .ok (.aload_n 0, 1) := by decide +kernel
theorem dX11_packAll_6 : decode cX11_packAll 6 = .ok (.iconst 0, 1) := by decide +kernel
theorem dX11_packAll_7 : decode cX11_packAll 7 = .ok (.putfield 117, 3) := by decide +kernel
theorem dX11_packAll_10 : decode cX11_packAll 10 = .ok (.iconst 0, 1) := by decide +kernel
theorem dX11_packAll_11 : decode cX11_packAll 11 = .ok (.istore_n 2, 1) := by decide +kernel
theorem dX11_packAll_12 : decode cX11_packAll 12 = .ok (.iload_n 2, 1) := by decide +kernel
theorem dX11_packAll_13 : decode cX11_packAll 13 = .ok (.aload_n 0, 1) := by decide +kernel
theorem dX11_packAll_14 : decode cX11_packAll 14 = .ok (.getfield 72, 3) := by decide +kernel
theorem dX11_packAll_17 : decode cX11_packAll 17 = .ok (.if_icmp .ge 21, 3) := by decide +kernel
theorem dX11_packAll_20 : decode cX11_packAll 20 = .ok (.aload_n 0, 1) := by decide +kernel
theorem dX11_packAll_21 : decode cX11_packAll 21 = .ok (.getfield 25, 3) := by decide +kernel
theorem dX11_packAll_24 : decode cX11_packAll 24 = .ok (.iload_n 2, 1) := by decide +kernel
theorem dX11_packAll_25 : decode cX11_packAll 25 = .ok (.aload_n 0, 1) := by decide +kernel
theorem dX11_packAll_26 : decode cX11_packAll 26 = .ok (.getfield 7, 3) := by decide +kernel
theorem dX11_packAll_29 : decode cX11_packAll 29 = .ok (.iload_n 2, 1) := by decide +kernel
theorem dX11_packAll_30 : decode cX11_packAll 30 = .ok (.iaload, 1) := by decide +kernel
theorem dX11_packAll_31 : decode cX11_packAll 31 = .ok (.iastore, 1) := by decide +kernel
theorem dX11_packAll_32 : decode cX11_packAll 32 = .ok (.iinc 2 1, 3) := by decide +kernel
theorem dX11_packAll_35 : decode cX11_packAll 35 = .ok (.goto (-23), 3) := by decide +kernel
theorem dX11_packAll_38 : decode cX11_packAll 38 = .ok (.aload_n 0, 1) := by decide +kernel
theorem dX11_packAll_39 : decode cX11_packAll 39 = .ok (.aload_n 0, 1) := by decide +kernel
theorem dX11_packAll_40 : decode cX11_packAll 40 = .ok (.getfield 100, 3) := by decide +kernel
theorem dX11_packAll_43 : decode cX11_packAll 43 = .ok (.ifCond .ge 7, 3) := by decide +kernel
theorem dX11_packAll_46 : decode cX11_packAll 46 = .ok (.iconst 0, 1) := by decide +kernel
theorem dX11_packAll_47 : decode cX11_packAll 47 = .ok (.goto 15, 3) := by decide +kernel
theorem dX11_packAll_50 : decode cX11_packAll 50 = .ok (.aload_n 0, 1) := by decide +kernel
theorem dX11_packAll_51 : decode cX11_packAll 51 = .ok (.getfield 103, 3) := by decide +kernel
theorem dX11_packAll_54 : decode cX11_packAll 54 = .ok (.ifCond .ge 7, 3) := by decide +kernel
theorem dX11_packAll_57 : decode cX11_packAll 57 = .ok (.iconst 1, 1) := by decide +kernel
theorem dX11_packAll_58 : decode cX11_packAll 58 = .ok (.goto 4, 3) := by decide +kernel
theorem dX11_packAll_61 : decode cX11_packAll 61 = .ok (.iconst 2, 1) := by decide +kernel
theorem dX11_packAll_62 : decode cX11_packAll 62 = .ok (.invokevirtual 123, 3) := by decide +kernel
theorem dX11_packAll_65 : decode cX11_packAll 65 = .ok (.aload_n 0, 1) := by decide +kernel
theorem dX11_packAll_66 : decode cX11_packAll 66 = .ok (.aload_n 0, 1) := by decide +kernel
theorem dX11_packAll_67 : decode cX11_packAll 67 = .ok (.getfield 100, 3) := by decide +kernel
theorem dX11_packAll_70 : decode cX11_packAll 70 = .ok (.invokevirtual 168, 3) := by decide +kernel
theorem dX11_packAll_73 : decode cX11_packAll 73 = .ok (.aload_n 0, 1) := by decide +kernel
theorem dX11_packAll_74 : decode cX11_packAll 74 = .ok (.aload_n 0, 1) := by decide +kernel
theorem dX11_packAll_75 : decode cX11_packAll 75 = .ok (.getfield 103, 3) := by decide +kernel
theorem dX11_packAll_78 : decode cX11_packAll 78 = .ok (.invokevirtual 168, 3) := by decide +kernel
theorem dX11_packAll_81 : decode cX11_packAll 81 = .ok (.aload_n 0, 1) := by decide +kernel
theorem dX11_packAll_82 : decode cX11_packAll 82 = .ok (.aload_n 0, 1) := by decide +kernel
theorem dX11_packAll_83 : decode cX11_packAll 83 = .ok (.getfield 97, 3) := by decide +kernel
theorem dX11_packAll_86 : decode cX11_packAll 86 = .ok (.invokevirtual 123, 3) := by decide +kernel
theorem dX11_packAll_89 : decode cX11_packAll 89 = .ok (.aload_n 0, 1) := by decide +kernel
theorem dX11_packAll_90 : decode cX11_packAll 90 = .ok (.aload_n 0, 1) := by decide +kernel
theorem dX11_packAll_91 : decode cX11_packAll 91 = .ok (.getfield 72, 3) := by decide +kernel
theorem dX11_packAll_94 : decode cX11_packAll 94 = .ok (.sipush 256, 3) := by decide +kernel
theorem dX11_packAll_97 : decode cX11_packAll 97 = .ok (.idiv, 1) := by decide +kernel
theorem dX11_packAll_98 : decode cX11_packAll 98 = .ok (.invokevirtual 123, 3) := by decide +kernel
theorem dX11_packAll_101 : decode cX11_packAll 101 = .ok (.aload_n 0, 1) := by decide +kernel
theorem dX11_packAll_102 : decode cX11_packAll 102 = .ok (.aload_n 0, 1) := by decide +kernel
theorem dX11_packAll_103 : decode cX11_packAll 103 = .ok (.getfield 72, 3) := by decide +kernel
theorem dX11_packAll_106 : decode cX11_packAll 106 = .ok (.sipush 256, 3) := by decide +kernel
theorem dX11_packAll_109 : decode cX11_packAll 109 = .ok (.irem, 1) := by decide +kernel
theorem dX11_packAll_110 : decode cX11_packAll 110 = .ok (.invokevirtual 123, 3) := by decide +kernel
theorem dX11_packAll_113 : decode cX11_packAll 113 = .ok (.aload_n 0, 1) := by decide +kernel
theorem dX11_packAll_114 : decode cX11_packAll 114 = .ok (.getfield 72, 3) := by decide +kernel
theorem dX11_packAll_117 : decode cX11_packAll 117 = .ok (.ifCond .ne 4, 3) := by decide +kernel
theorem dX11_packAll_120 : decode cX11_packAll 120 = .ok (.return_, 1) := by decide +kernel
theorem dX11_packAll_121 : decode cX11_packAll 121 = .ok (.aload_n 0, 1) := by decide +kernel
theorem dX11_packAll_122 : decode cX11_packAll 122 = .ok (.getfield 97, 3) := by decide +kernel
theorem dX11_packAll_125 : decode cX11_packAll 125 = .ok (.tableswitch 93 0 3 #[31, 60, 71, 82], 31) := by decide +kernel
theorem dX11_packAll_156 : decode cX11_packAll 156 = .ok (.iconst 0, 1) := by decide +kernel
theorem dX11_packAll_157 : decode cX11_packAll 157 = .ok (.istore_n 2, 1) := by decide +kernel
theorem dX11_packAll_158 : decode cX11_packAll 158 = .ok (.iload_n 2, 1) := by decide +kernel
theorem dX11_packAll_159 : decode cX11_packAll 159 = .ok (.aload_n 0, 1) := by decide +kernel
theorem dX11_packAll_160 : decode cX11_packAll 160 = .ok (.getfield 72, 3) := by decide +kernel
theorem dX11_packAll_163 : decode cX11_packAll 163 = .ok (.if_icmp .ge 19, 3) := by decide +kernel
theorem dX11_packAll_166 : decode cX11_packAll 166 = .ok (.aload_n 0, 1) := by decide +kernel
theorem dX11_packAll_167 : decode cX11_packAll 167 = .ok (.aload_n 0, 1) := by decide +kernel
theorem dX11_packAll_168 : decode cX11_packAll 168 = .ok (.getfield 25, 3) := by decide +kernel
theorem dX11_packAll_171 : decode cX11_packAll 171 = .ok (.iload_n 2, 1) := by decide +kernel
theorem dX11_packAll_172 : decode cX11_packAll 172 = .ok (.iaload, 1) := by decide +kernel
theorem dX11_packAll_173 : decode cX11_packAll 173 = .ok (.invokevirtual 123, 3) := by decide +kernel
theorem dX11_packAll_176 : decode cX11_packAll 176 = .ok (.iinc 2 1, 3) := by decide +kernel
theorem dX11_packAll_179 : decode cX11_packAll 179 = .ok (.goto (-21), 3) := by decide +kernel
theorem dX11_packAll_182 : decode cX11_packAll 182 = .ok (.goto 44, 3) := by decide +kernel
theorem dX11_packAll_185 : decode cX11_packAll 185 = .ok (.aload_n 0, 1) := by decide +kernel
theorem dX11_packAll_186 : decode cX11_packAll 186 = .ok (.aload_n 0, 1) := by decide +kernel
theorem dX11_packAll_187 : decode cX11_packAll 187 = .ok (.getfield 72, 3) := by decide +kernel
theorem dX11_packAll_190 : decode cX11_packAll 190 = .ok (.invokevirtual 171, 3) := by decide +kernel
theorem dX11_packAll_193 : decode cX11_packAll 193 = .ok (.goto 33, 3) := by decide +kernel
theorem dX11_packAll_196 : decode cX11_packAll 196 = .ok (.aload_n 0, 1) := by decide +kernel
theorem dX11_packAll_197 : decode cX11_packAll 197 = .ok (.aload_n 0, 1) := by decide +kernel
theorem dX11_packAll_198 : decode cX11_packAll 198 = .ok (.getfield 72, 3) := by decide +kernel
theorem dX11_packAll_201 : decode cX11_packAll 201 = .ok (.invokevirtual 174, 3) := by decide +kernel
theorem dX11_packAll_204 : decode cX11_packAll 204 = .ok (.goto 22, 3) := by decide +kernel
theorem dX11_packAll_207 : decode cX11_packAll 207 = .ok (.aload_n 0, 1) := by decide +kernel
theorem dX11_packAll_208 : decode cX11_packAll 208 = .ok (.aload_n 0, 1) := by decide +kernel
theorem dX11_packAll_209 : decode cX11_packAll 209 = .ok (.getfield 72, 3) := by decide +kernel
theorem dX11_packAll_212 : decode cX11_packAll 212 = .ok (.invokevirtual 177, 3) := by decide +kernel
theorem dX11_packAll_215 : decode cX11_packAll 215 = .ok (.goto 11, 3) := by decide +kernel
theorem dX11_packAll_218 : decode cX11_packAll 218 = .ok (.aload_n 0, 1) := by decide +kernel
theorem dX11_packAll_219 : decode cX11_packAll 219 = .ok (.aload_n 0, 1) := by decide +kernel
theorem dX11_packAll_220 : decode cX11_packAll 220 = .ok (.getfield 72, 3) := by decide +kernel
theorem dX11_packAll_223 : decode cX11_packAll 223 = .ok (.invokevirtual 180, 3) := by decide +kernel
theorem dX11_packAll_226 : decode cX11_packAll 226 = .ok (.return_, 1) := by decide +kernel
theorem dX11_chain_0 : decode cX11_chain 0 = .ok (.iload_n 1, 1) := by decide +kernel
theorem dX11_chain_1 : decode cX11_chain 1 = .ok (.iconst 0, 1) := by decide +kernel
theorem dX11_chain_2 : decode cX11_chain 2 = .ok (.aload_n 0, 1) := by decide +kernel
theorem dX11_chain_3 : decode cX11_chain 3 = .ok (.invokevirtual 93, 3) := by decide +kernel
theorem dX11_chain_6 : decode cX11_chain 6 = .ok (.iconst 1, 1) := by decide +kernel
theorem dX11_chain_7 : decode cX11_chain 7 = .ok (.isub, 1) := by decide +kernel
theorem dX11_chain_8 : decode cX11_chain 8 = .ok (.invokestatic 75, 3) := by decide +kernel
theorem dX11_chain_11 : decode cX11_chain 11 = .ok (.ifCond .ne 5, 3) := by decide +kernel
theorem dX11_chain_14 : decode cX11_chain 14 = .ok (.iconst (-1), 1) := by decide +kernel
theorem dX11_chain_15 : decode cX11_chain 15 = .ok (.ireturn, 1) := by decide +kernel
theorem dX11_chain_16 : decode cX11_chain 16 = .ok (.aload_n 0, 1) := by decide +kernel
theorem dX11_chain_17 : decode cX11_chain 17 = .ok (.iload_n 1, 1) := by decide +kernel
theorem dX11_chain_18 : decode cX11_chain 18 = .ok (.invokevirtual 165, 3) := by decide +kernel
theorem dX11_chain_21 : decode cX11_chain 21 = .ok (.iload_n 2, 1) := by decide +kernel
theorem dX11_chain_22 : decode cX11_chain 22 = .ok (.tableswitch 73 0 5 #[38, 43, 48, 53, 58, 63], 38) := by decide +kernel
theorem dX11_chain_60 : decode cX11_chain 60 = .ok (.aload_n 0, 1) := by decide +kernel
theorem dX11_chain_61 : decode cX11_chain 61 = .ok (.getfield 100, 3) := by decide +kernel
theorem dX11_chain_64 : decode cX11_chain 64 = .ok (.ireturn, 1) := by decide +kernel
theorem dX11_chain_65 : decode cX11_chain 65 = .ok (.aload_n 0, 1) := by decide +kernel
theorem dX11_chain_66 : decode cX11_chain 66 = .ok (.getfield 103, 3) := by decide +kernel
theorem dX11_chain_69 : decode cX11_chain 69 = .ok (.ireturn, 1) := by decide +kernel
theorem dX11_chain_70 : decode cX11_chain 70 = .ok (.aload_n 0, 1) := by decide +kernel
theorem dX11_chain_71 : decode cX11_chain 71 = .ok (.getfield 97, 3) := by decide +kernel
theorem dX11_chain_74 : decode cX11_chain 74 = .ok (.ireturn, 1) := by decide +kernel
theorem dX11_chain_75 : decode cX11_chain 75 = .ok (.aload_n 0, 1) := by decide +kernel
theorem dX11_chain_76 : decode cX11_chain 76 = .ok (.invokevirtual 183, 3) := by decide +kernel
theorem dX11_chain_79 : decode cX11_chain 79 = .ok (.ireturn, 1) := by decide +kernel
theorem dX11_chain_80 : decode cX11_chain 80 = .ok (.aload_n 0, 1) := by decide +kernel
theorem dX11_chain_81 : decode cX11_chain 81 = .ok (.invokevirtual 186, 3) := by decide +kernel
theorem dX11_chain_84 : decode cX11_chain 84 = .ok (.ireturn, 1) := by decide +kernel
theorem dX11_chain_85 : decode cX11_chain 85 = .ok (.aload_n 0, 1) := by decide +kernel
theorem dX11_chain_86 : decode cX11_chain 86 = .ok (.iload_n 1, 1) := by decide +kernel
theorem dX11_chain_87 : decode cX11_chain 87 = .ok (.invokevirtual 189, 3) := by decide +kernel
theorem dX11_chain_90 : decode cX11_chain 90 = .ok (.aload_n 0, 1) := by decide +kernel
theorem dX11_chain_91 : decode cX11_chain 91 = .ok (.getfield 117, 3) := by decide +kernel
theorem dX11_chain_94 : decode cX11_chain 94 = .ok (.ireturn, 1) := by decide +kernel
theorem dX11_chain_95 : decode cX11_chain 95 = .ok (.iconst (-1), 1) := by decide +kernel
theorem dX11_chain_96 : decode cX11_chain 96 = .ok (.ireturn, 1) := by decide +kernel
theorem dX11_isFlat_0 : decode cX11_isFlat 0 = .ok (.iconst 0, 1) := by decide +kernel
theorem dX11_isFlat_1 : decode cX11_isFlat 1 = .ok (.istore_n 1, 1) := by decide +kernel
theorem dX11_isFlat_2 : decode cX11_isFlat 2 = .ok (.iload_n 1, 1) := by decide +kernel
theorem dX11_isFlat_3 : decode cX11_isFlat 3 = .ok (.aload_n 0, 1) := by decide +kernel
theorem dX11_isFlat_4 : decode cX11_isFlat 4 = .ok (.getfield 72, 3) := by decide +kernel
theorem dX11_isFlat_7 : decode cX11_isFlat 7 = .ok (.if_icmp .ge 21, 3) := by decide +kernel
theorem dX11_isFlat_10 : decode cX11_isFlat 10 = .ok (.aload_n 0, 1) := by decide +kernel
theorem dX11_isFlat_11 : decode cX11_isFlat 11 = .ok (.getfield 25, 3) := by decide +kernel
theorem dX11_isFlat_14 : decode cX11_isFlat 14 = .ok (.iload_n 1, 1) := by decide +kernel
theorem dX11_isFlat_15 : decode cX11_isFlat 15 = .ok (.aload_n 0, 1) := by decide +kernel
theorem dX11_isFlat_16 : decode cX11_isFlat 16 = .ok (.getfield 7, 3) := by decide +kernel
theorem dX11_isFlat_19 : decode cX11_isFlat 19 = .ok (.iload_n 1, 1) := by decide +kernel
theorem dX11_isFlat_20 : decode cX11_isFlat 20 = .ok (.iaload, 1) := by decide +kernel
theorem dX11_isFlat_21 : decode cX11_isFlat 21 = .ok (.iastore, 1) := by decide +kernel
theorem dX11_isFlat_22 : decode cX11_isFlat 22 = .ok (.iinc 1 1, 3) := by decide +kernel
theorem dX11_isFlat_25 : decode cX11_isFlat 25 = .ok (.goto (-23), 3) := by decide +kernel
theorem dX11_isFlat_28 : decode cX11_isFlat 28 = .ok (.aload_n 0, 1) := by decide +kernel
theorem dX11_isFlat_29 : decode cX11_isFlat 29 = .ok (.aload_n 0, 1) := by decide +kernel
theorem dX11_isFlat_30 : decode cX11_isFlat 30 = .ok (.getfield 72, 3) := by decide +kernel
theorem dX11_isFlat_33 : decode cX11_isFlat 33 = .ok (.invokevirtual 143, 3) := by decide +kernel
theorem dX11_isFlat_36 : decode cX11_isFlat 36 = .ok (.istore_n 1, 1) := by decide +kernel
theorem dX11_isFlat_37 : decode cX11_isFlat 37 = .ok (.aload_n 0, 1) := by decide +kernel
theorem dX11_isFlat_38 : decode cX11_isFlat 38 = .ok (.getfield 72, 3) := by decide +kernel
theorem dX11_isFlat_41 : decode cX11_isFlat 41 = .ok (.bipush 64, 2) := by decide +kernel
theorem dX11_isFlat_43 : decode cX11_isFlat 43 = .ok (.if_icmp .lt 7, 3) := by decide +kernel
theorem dX11_isFlat_46 : decode cX11_isFlat 46 = .ok (.iconst 1, 1) := by decide +kernel
theorem dX11_isFlat_47 : decode cX11_isFlat 47 = .ok (.goto 4, 3) := by decide +kernel
theorem dX11_isFlat_50 : decode cX11_isFlat 50 = .ok (.iconst 0, 1) := by decide +kernel
theorem dX11_isFlat_51 : decode cX11_isFlat 51 = .ok (.istore_n 2, 1) := by decide +kernel
theorem dX11_isFlat_52 : decode cX11_isFlat 52 = .ok (.iconst 0, 1) := by decide +kernel
theorem dX11_isFlat_53 : decode cX11_isFlat 53 = .ok (.istore_n 3, 1) := by decide +kernel
theorem dX11_isFlat_54 : decode cX11_isFlat 54 = .ok (.iload_n 3, 1) := by decide +kernel
theorem dX11_isFlat_55 : decode cX11_isFlat 55 = .ok (.sipush 256, 3) := by decide +kernel
theorem dX11_isFlat_58 : decode cX11_isFlat 58 = .ok (.if_icmp .ge 37, 3) := by decide +kernel
theorem dX11_isFlat_61 : decode cX11_isFlat 61 = .ok (.iload_n 2, 1) := by decide +kernel
theorem dX11_isFlat_62 : decode cX11_isFlat 62 = .ok (.ifCond .eq 25, 3) := by decide +kernel
theorem dX11_isFlat_65 : decode cX11_isFlat 65 = .ok (.aload_n 0, 1) := by decide +kernel
theorem dX11_isFlat_66 : decode cX11_isFlat 66 = .ok (.getfield 34, 3) := by decide +kernel
theorem dX11_isFlat_69 : decode cX11_isFlat 69 = .ok (.iload_n 3, 1) := by decide +kernel
theorem dX11_isFlat_70 : decode cX11_isFlat 70 = .ok (.iaload, 1) := by decide +kernel
theorem dX11_isFlat_71 : decode cX11_isFlat 71 = .ok (.iconst 2, 1) := by decide +kernel
theorem dX11_isFlat_72 : decode cX11_isFlat 72 = .ok (.aload_n 0, 1) := by decide +kernel
theorem dX11_isFlat_73 : decode cX11_isFlat 73 = .ok (.getfield 72, 3) := by decide +kernel
theorem dX11_isFlat_76 : decode cX11_isFlat 76 = .ok (.bipush 32, 2) := by decide +kernel
theorem dX11_isFlat_78 : decode cX11_isFlat 78 = .ok (.idiv, 1) := by decide +kernel
theorem dX11_isFlat_79 : decode cX11_isFlat 79 = .ok (.iadd, 1) := by decide +kernel
theorem dX11_isFlat_80 : decode cX11_isFlat 80 = .ok (.if_icmp .gt 7, 3) := by decide +kernel
theorem dX11_isFlat_83 : decode cX11_isFlat 83 = .ok (.iconst 1, 1) := by decide +kernel
theorem dX11_isFlat_84 : decode cX11_isFlat 84 = .ok (.goto 4, 3) := by decide +kernel
theorem dX11_isFlat_87 : decode cX11_isFlat 87 = .ok (.iconst 0, 1) := by decide +kernel
theorem dX11_isFlat_88 : decode cX11_isFlat 88 = .ok (.istore_n 2, 1) := by decide +kernel
theorem dX11_isFlat_89 : decode cX11_isFlat 89 = .ok (.iinc 3 1, 3) := by decide +kernel
theorem dX11_isFlat_92 : decode cX11_isFlat 92 = .ok (.goto (-38), 3) := by decide +kernel
theorem dX11_isFlat_95 : decode cX11_isFlat 95 = .ok (.iload_n 2, 1) := by decide +kernel
theorem dX11_isFlat_96 : decode cX11_isFlat 96 = .ok (.ireturn, 1) := by decide +kernel
theorem dX11_choose_0 : decode cX11_choose 0 = .ok (.aload_n 0, 1) := by decide +kernel
theorem dX11_choose_1 : decode cX11_choose 1 = .ok (.iconst 0, 1) := by decide +kernel
theorem dX11_choose_2 : decode cX11_choose 2 = .ok (.putfield 65, 3) := by decide +kernel
theorem dX11_choose_5 : decode cX11_choose 5 = .ok (.iload_n 1, 1) := by decide +kernel
theorem dX11_choose_6 : decode cX11_choose 6 = .ok (.ifCond .lt 7, 3) := by decide +kernel
theorem dX11_choose_9 : decode cX11_choose 9 = .ok (.iload_n 2, 1) := by decide +kernel
theorem dX11_choose_10 : decode cX11_choose 10 = .ok (.ifCond .ge 5, 3) := by decide +kernel
theorem dX11_choose_13 : decode cX11_choose 13 = .ok (.iconst (-1), 1) := by decide +kernel
theorem dX11_choose_14 : decode cX11_choose 14 = .ok (.ireturn, 1) := by decide +kernel
theorem dX11_choose_15 : decode cX11_choose 15 = .ok (.aload_n 0, 1) := by decide +kernel
theorem dX11_choose_16 : decode cX11_choose 16 = .ok (.invokevirtual 192, 3) := by decide +kernel
theorem dX11_choose_19 : decode cX11_choose 19 = .ok (.istore_n 3, 1) := by decide +kernel
theorem dX11_choose_20 : decode cX11_choose 20 = .ok (.iconst 0, 1) := by decide +kernel
theorem dX11_choose_21 : decode cX11_choose 21 = .ok (.istore 4, 2) := by decide +kernel
theorem dX11_choose_23 : decode cX11_choose 23 = .ok (.iconst 0, 1) := by decide +kernel
theorem dX11_choose_24 : decode cX11_choose 24 = .ok (.istore 5, 2) := by decide +kernel
theorem dX11_choose_26 : decode cX11_choose 26 = .ok (.iconst 0, 1) := by decide +kernel
theorem dX11_choose_27 : decode cX11_choose 27 = .ok (.istore 6, 2) := by decide +kernel
theorem dX11_choose_29 : decode cX11_choose 29 = .ok (.iconst 0, 1) := by decide +kernel
theorem dX11_choose_30 : decode cX11_choose 30 = .ok (.istore 7, 2) := by decide +kernel
theorem dX11_choose_32 : decode cX11_choose 32 = .ok (.iconst 0, 1) := by decide +kernel
theorem dX11_choose_33 : decode cX11_choose 33 = .ok (.istore 8, 2) := by decide +kernel
theorem dX11_choose_35 : decode cX11_choose 35 = .ok (.iconst 0, 1) := by decide +kernel
theorem dX11_choose_36 : decode cX11_choose 36 = .ok (.istore 9, 2) := by decide +kernel
theorem dX11_choose_38 : decode cX11_choose 38 = .ok (.iload_n 3, 1) := by decide +kernel
theorem dX11_choose_39 : decode cX11_choose 39 = .ok (.ifCond .ne 7, 3) := by decide +kernel
theorem dX11_choose_42 : decode cX11_choose 42 = .ok (.iconst 1, 1) := by decide +kernel
theorem dX11_choose_43 : decode cX11_choose 43 = .ok (.goto 4, 3) := by decide +kernel
theorem dX11_choose_46 : decode cX11_choose 46 = .ok (.iconst 0, 1) := by decide +kernel
theorem dX11_choose_47 : decode cX11_choose 47 = .ok (.istore 10, 2) := by decide +kernel
theorem dX11_choose_49 : decode cX11_choose 49 = .ok (.iconst 0, 1) := by decide +kernel
theorem dX11_choose_50 : decode cX11_choose 50 = .ok (.istore 11, 2) := by decide +kernel
theorem dX11_choose_52 : decode cX11_choose 52 = .ok (.iload 11, 2) := by decide +kernel
theorem dX11_choose_54 : decode cX11_choose 54 = .ok (.aload_n 0, 1) := by decide +kernel
theorem dX11_choose_55 : decode cX11_choose 55 = .ok (.invokevirtual 93, 3) := by decide +kernel
theorem dX11_choose_58 : decode cX11_choose 58 = .ok (.if_icmp .ge 162, 3) := by decide +kernel
theorem dX11_choose_61 : decode cX11_choose 61 = .ok (.iload 10, 2) := by decide +kernel
theorem dX11_choose_63 : decode cX11_choose 63 = .ok (.ifCond .eq 157, 3) := by decide +kernel
theorem dX11_choose_66 : decode cX11_choose 66 = .ok (.aload_n 0, 1) := by decide +kernel
theorem dX11_choose_67 : decode cX11_choose 67 = .ok (.iload 11, 2) := by decide +kernel
theorem dX11_choose_69 : decode cX11_choose 69 = .ok (.invokevirtual 165, 3) := by decide +kernel
theorem dX11_choose_72 : decode cX11_choose 72 = .ok (.aload_n 0, 1) := by decide +kernel
theorem dX11_choose_73 : decode cX11_choose 73 = .ok (.invokevirtual 183, 3) := by decide +kernel
theorem dX11_choose_76 : decode cX11_choose 76 = .ok (.istore 12, 2) := by decide +kernel
theorem dX11_choose_78 : decode cX11_choose 78 = .ok (.aload_n 0, 1) := by decide +kernel
theorem dX11_choose_79 : decode cX11_choose 79 = .ok (.invokevirtual 186, 3) := by decide +kernel
theorem dX11_choose_82 : decode cX11_choose 82 = .ok (.iload_n 2, 1) := by decide +kernel
theorem dX11_choose_83 : decode cX11_choose 83 = .ok (.if_icmp .le 9, 3) := by decide +kernel
theorem dX11_choose_86 : decode cX11_choose 86 = .ok (.iinc 9 1, 3) := by decide +kernel
theorem dX11_choose_89 : decode cX11_choose 89 = .ok (.goto 125, 3) := by decide +kernel
theorem dX11_choose_92 : decode cX11_choose 92 = .ok (.iload 12, 2) := by decide +kernel
theorem dX11_choose_94 : decode cX11_choose 94 = .ok (.aload_n 0, 1) := by decide +kernel
theorem dX11_choose_95 : decode cX11_choose 95 = .ok (.getfield 72, 3) := by decide +kernel
theorem dX11_choose_98 : decode cX11_choose 98 = .ok (.imul, 1) := by decide +kernel
theorem dX11_choose_99 : decode cX11_choose 99 = .ok (.iload_n 1, 1) := by decide +kernel
theorem dX11_choose_100 : decode cX11_choose 100 = .ok (.iload 5, 2) := by decide +kernel
theorem dX11_choose_102 : decode cX11_choose 102 = .ok (.isub, 1) := by decide +kernel
theorem dX11_choose_103 : decode cX11_choose 103 = .ok (.if_icmp .le 9, 3) := by decide +kernel
theorem dX11_choose_106 : decode cX11_choose 106 = .ok (.iconst 0, 1) := by decide +kernel
theorem dX11_choose_107 : decode cX11_choose 107 = .ok (.istore 10, 2) := by decide +kernel
theorem dX11_choose_109 : decode cX11_choose 109 = .ok (.goto 105, 3) := by decide +kernel
theorem dX11_choose_112 : decode cX11_choose 112 = .ok (.iload 5, 2) := by decide +kernel
theorem dX11_choose_114 : decode cX11_choose 114 = .ok (.iload 12, 2) := by decide +kernel
theorem dX11_choose_116 : decode cX11_choose 116 = .ok (.aload_n 0, 1) := by decide +kernel
theorem dX11_choose_117 : decode cX11_choose 117 = .ok (.getfield 72, 3) := by decide +kernel
theorem dX11_choose_120 : decode cX11_choose 120 = .ok (.imul, 1) := by decide +kernel
theorem dX11_choose_121 : decode cX11_choose 121 = .ok (.iadd, 1) := by decide +kernel
theorem dX11_choose_122 : decode cX11_choose 122 = .ok (.istore 5, 2) := by decide +kernel
theorem dX11_choose_124 : decode cX11_choose 124 = .ok (.aload_n 0, 1) := by decide +kernel
theorem dX11_choose_125 : decode cX11_choose 125 = .ok (.iload 11, 2) := by decide +kernel
theorem dX11_choose_127 : decode cX11_choose 127 = .ok (.invokevirtual 189, 3) := by decide +kernel
theorem dX11_choose_130 : decode cX11_choose 130 = .ok (.iload 4, 2) := by decide +kernel
theorem dX11_choose_132 : decode cX11_choose 132 = .ok (.ifCond .eq 28, 3) := by decide +kernel
theorem dX11_choose_135 : decode cX11_choose 135 = .ok (.aload_n 0, 1) := by decide +kernel
theorem dX11_choose_136 : decode cX11_choose 136 = .ok (.getfield 117, 3) := by decide +kernel
theorem dX11_choose_139 : decode cX11_choose 139 = .ok (.iload 7, 2) := by decide +kernel
theorem dX11_choose_141 : decode cX11_choose 141 = .ok (.if_icmp .lt 19, 3) := by decide +kernel
theorem dX11_choose_144 : decode cX11_choose 144 = .ok (.aload_n 0, 1) := by decide +kernel
theorem dX11_choose_145 : decode cX11_choose 145 = .ok (.getfield 117, 3) := by decide +kernel
theorem dX11_choose_148 : decode cX11_choose 148 = .ok (.iload 7, 2) := by decide +kernel
theorem dX11_choose_150 : decode cX11_choose 150 = .ok (.if_icmp .ne 14, 3) := by decide +kernel
theorem dX11_choose_153 : decode cX11_choose 153 = .ok (.iload 12, 2) := by decide +kernel
theorem dX11_choose_155 : decode cX11_choose 155 = .ok (.iload 8, 2) := by decide +kernel
theorem dX11_choose_157 : decode cX11_choose 157 = .ok (.if_icmp .ge 7, 3) := by decide +kernel
theorem dX11_choose_160 : decode cX11_choose 160 = .ok (.iconst 1, 1) := by decide +kernel
theorem dX11_choose_161 : decode cX11_choose 161 = .ok (.goto 4, 3) := by decide +kernel
theorem dX11_choose_164 : decode cX11_choose 164 = .ok (.iconst 0, 1) := by decide +kernel
theorem dX11_choose_165 : decode cX11_choose 165 = .ok (.istore 13, 2) := by decide +kernel
theorem dX11_choose_167 : decode cX11_choose 167 = .ok (.iload 13, 2) := by decide +kernel
theorem dX11_choose_169 : decode cX11_choose 169 = .ok (.ifCond .eq 8, 3) := by decide +kernel
theorem dX11_choose_172 : decode cX11_choose 172 = .ok (.iload 11, 2) := by decide +kernel
theorem dX11_choose_174 : decode cX11_choose 174 = .ok (.goto 5, 3) := by decide +kernel
theorem dX11_choose_177 : decode cX11_choose 177 = .ok (.iload 6, 2) := by decide +kernel
theorem dX11_choose_179 : decode cX11_choose 179 = .ok (.istore 6, 2) := by decide +kernel
theorem dX11_choose_181 : decode cX11_choose 181 = .ok (.iload 13, 2) := by decide +kernel
theorem dX11_choose_183 : decode cX11_choose 183 = .ok (.ifCond .eq 10, 3) := by decide +kernel
theorem dX11_choose_186 : decode cX11_choose 186 = .ok (.aload_n 0, 1) := by decide +kernel
theorem dX11_choose_187 : decode cX11_choose 187 = .ok (.getfield 117, 3) := by decide +kernel
theorem dX11_choose_190 : decode cX11_choose 190 = .ok (.goto 5, 3) := by decide +kernel
theorem dX11_choose_193 : decode cX11_choose 193 = .ok (.iload 7, 2) := by decide +kernel
theorem dX11_choose_195 : decode cX11_choose 195 = .ok (.istore 7, 2) := by decide +kernel
theorem dX11_choose_197 : decode cX11_choose 197 = .ok (.iload 13, 2) := by decide +kernel
theorem dX11_choose_199 : decode cX11_choose 199 = .ok (.ifCond .eq 8, 3) := by decide +kernel
theorem dX11_choose_202 : decode cX11_choose 202 = .ok (.iload 12, 2) := by decide +kernel
theorem dX11_choose_204 : decode cX11_choose 204 = .ok (.goto 5, 3) := by decide +kernel
theorem dX11_choose_207 : decode cX11_choose 207 = .ok (.iload 8, 2) := by decide +kernel
theorem dX11_choose_209 : decode cX11_choose 209 = .ok (.istore 8, 2) := by decide +kernel
theorem dX11_choose_211 : decode cX11_choose 211 = .ok (.iinc 4 1, 3) := by decide +kernel
theorem dX11_choose_214 : decode cX11_choose 214 = .ok (.iinc 11 1, 3) := by decide +kernel
theorem dX11_choose_217 : decode cX11_choose 217 = .ok (.goto (-165), 3) := by decide +kernel
theorem dX11_choose_220 : decode cX11_choose 220 = .ok (.iload 4, 2) := by decide +kernel
theorem dX11_choose_222 : decode cX11_choose 222 = .ok (.ifCond .ne 14, 3) := by decide +kernel
theorem dX11_choose_225 : decode cX11_choose 225 = .ok (.aload_n 0, 1) := by decide +kernel
theorem dX11_choose_226 : decode cX11_choose 226 = .ok (.iconst 0, 1) := by decide +kernel
theorem dX11_choose_227 : decode cX11_choose 227 = .ok (.invokevirtual 189, 3) := by decide +kernel
theorem dX11_choose_230 : decode cX11_choose 230 = .ok (.aload_n 0, 1) := by decide +kernel
theorem dX11_choose_231 : decode cX11_choose 231 = .ok (.getfield 117, 3) := by decide +kernel
theorem dX11_choose_234 : decode cX11_choose 234 = .ok (.istore 7, 2) := by decide +kernel
theorem dX11_choose_236 : decode cX11_choose 236 = .ok (.aload_n 0, 1) := by decide +kernel
theorem dX11_choose_237 : decode cX11_choose 237 = .ok (.iconst 1, 1) := by decide +kernel
theorem dX11_choose_238 : decode cX11_choose 238 = .ok (.putfield 68, 3) := by decide +kernel
theorem dX11_choose_241 : decode cX11_choose 241 = .ok (.aload_n 0, 1) := by decide +kernel
theorem dX11_choose_242 : decode cX11_choose 242 = .ok (.getfield 52, 3) := by decide +kernel
theorem dX11_choose_245 : decode cX11_choose 245 = .ok (.iconst 0, 1) := by decide +kernel
theorem dX11_choose_246 : decode cX11_choose 246 = .ok (.iload 4, 2) := by decide +kernel
theorem dX11_choose_248 : decode cX11_choose 248 = .ok (.iastore, 1) := by decide +kernel
theorem dX11_choose_249 : decode cX11_choose 249 = .ok (.aload_n 0, 1) := by decide +kernel
theorem dX11_choose_250 : decode cX11_choose 250 = .ok (.getfield 52, 3) := by decide +kernel
theorem dX11_choose_253 : decode cX11_choose 253 = .ok (.iconst 1, 1) := by decide +kernel
theorem dX11_choose_254 : decode cX11_choose 254 = .ok (.iload 5, 2) := by decide +kernel
theorem dX11_choose_256 : decode cX11_choose 256 = .ok (.iastore, 1) := by decide +kernel
theorem dX11_choose_257 : decode cX11_choose 257 = .ok (.aload_n 0, 1) := by decide +kernel
theorem dX11_choose_258 : decode cX11_choose 258 = .ok (.getfield 52, 3) := by decide +kernel
theorem dX11_choose_261 : decode cX11_choose 261 = .ok (.iconst 2, 1) := by decide +kernel
theorem dX11_choose_262 : decode cX11_choose 262 = .ok (.iload 6, 2) := by decide +kernel
theorem dX11_choose_264 : decode cX11_choose 264 = .ok (.iastore, 1) := by decide +kernel
theorem dX11_choose_265 : decode cX11_choose 265 = .ok (.aload_n 0, 1) := by decide +kernel
theorem dX11_choose_266 : decode cX11_choose 266 = .ok (.getfield 52, 3) := by decide +kernel
theorem dX11_choose_269 : decode cX11_choose 269 = .ok (.iconst 3, 1) := by decide +kernel
theorem dX11_choose_270 : decode cX11_choose 270 = .ok (.iload 7, 2) := by decide +kernel
theorem dX11_choose_272 : decode cX11_choose 272 = .ok (.iastore, 1) := by decide +kernel
theorem dX11_choose_273 : decode cX11_choose 273 = .ok (.aload_n 0, 1) := by decide +kernel
theorem dX11_choose_274 : decode cX11_choose 274 = .ok (.getfield 52, 3) := by decide +kernel
theorem dX11_choose_277 : decode cX11_choose 277 = .ok (.iconst 4, 1) := by decide +kernel
theorem dX11_choose_278 : decode cX11_choose 278 = .ok (.iload 9, 2) := by decide +kernel
theorem dX11_choose_280 : decode cX11_choose 280 = .ok (.iastore, 1) := by decide +kernel
theorem dX11_choose_281 : decode cX11_choose 281 = .ok (.aload_n 0, 1) := by decide +kernel
theorem dX11_choose_282 : decode cX11_choose 282 = .ok (.getfield 52, 3) := by decide +kernel
theorem dX11_choose_285 : decode cX11_choose 285 = .ok (.iconst 5, 1) := by decide +kernel
theorem dX11_choose_286 : decode cX11_choose 286 = .ok (.iload_n 3, 1) := by decide +kernel
theorem dX11_choose_287 : decode cX11_choose 287 = .ok (.ifCond .eq 7, 3) := by decide +kernel
theorem dX11_choose_290 : decode cX11_choose 290 = .ok (.iconst 1, 1) := by decide +kernel
theorem dX11_choose_291 : decode cX11_choose 291 = .ok (.goto 4, 3) := by decide +kernel
theorem dX11_choose_294 : decode cX11_choose 294 = .ok (.iconst 0, 1) := by decide +kernel
theorem dX11_choose_295 : decode cX11_choose 295 = .ok (.iastore, 1) := by decide +kernel
theorem dX11_choose_296 : decode cX11_choose 296 = .ok (.iload 6, 2) := by decide +kernel
theorem dX11_choose_298 : decode cX11_choose 298 = .ok (.ireturn, 1) := by decide +kernel
theorem dX11_told_0 : decode cX11_told 0 = .ok (.aload_n 0, 1) := by decide +kernel
theorem dX11_told_1 : decode cX11_told 1 = .ok (.iconst 0, 1) := by decide +kernel
theorem dX11_told_2 : decode cX11_told 2 = .ok (.putfield 65, 3) := by decide +kernel
theorem dX11_told_5 : decode cX11_told 5 = .ok (.iload_n 1, 1) := by decide +kernel
theorem dX11_told_6 : decode cX11_told 6 = .ok (.iconst 0, 1) := by decide +kernel
theorem dX11_told_7 : decode cX11_told 7 = .ok (.iconst 5, 1) := by decide +kernel
theorem dX11_told_8 : decode cX11_told 8 = .ok (.invokestatic 75, 3) := by decide +kernel
theorem dX11_told_11 : decode cX11_told 11 = .ok (.ifCond .ne 7, 3) := by decide +kernel
theorem dX11_told_14 : decode cX11_told 14 = .ok (.iconst (-1), 1) := by decide +kernel
theorem dX11_told_15 : decode cX11_told 15 = .ok (.goto 21, 3) := by decide +kernel
theorem dX11_told_18 : decode cX11_told 18 = .ok (.aload_n 0, 1) := by decide +kernel
theorem dX11_told_19 : decode cX11_told 19 = .ok (.getfield 68, 3) := by decide +kernel
theorem dX11_told_22 : decode cX11_told 22 = .ok (.ifCond .eq 12, 3) := by decide +kernel
theorem dX11_told_25 : decode cX11_told 25 = .ok (.aload_n 0, 1) := by decide +kernel
theorem dX11_told_26 : decode cX11_told 26 = .ok (.getfield 52, 3) := by decide +kernel
theorem dX11_told_29 : decode cX11_told 29 = .ok (.iload_n 1, 1) := by decide +kernel
theorem dX11_told_30 : decode cX11_told 30 = .ok (.iaload, 1) := by decide +kernel
theorem dX11_told_31 : decode cX11_told 31 = .ok (.goto 5, 3) := by decide +kernel
theorem dX11_told_34 : decode cX11_told 34 = .ok (.bipush (-3), 2) := by decide +kernel
theorem dX11_told_36 : decode cX11_told 36 = .ok (.ireturn, 1) := by decide +kernel
theorem dX11_feature_0 : decode cX11_feature 0 = .ok (.aload_n 0, 1) := by decide +kernel
theorem dX11_feature_1 : decode cX11_feature 1 = .ok (.iconst 0, 1) := by decide +kernel
theorem dX11_feature_2 : decode cX11_feature 2 = .ok (.putfield 65, 3) := by decide +kernel
theorem dX11_feature_5 : decode cX11_feature 5 = .ok (.iconst 0, 1) := by decide +kernel
theorem dX11_feature_6 : decode cX11_feature 6 = .ok (.istore_n 1, 1) := by decide +kernel
theorem dX11_feature_7 : decode cX11_feature 7 = .ok (.iload_n 1, 1) := by decide +kernel
theorem dX11_feature_8 : decode cX11_feature 8 = .ok (.aload_n 0, 1) := by decide +kernel
theorem dX11_feature_9 : decode cX11_feature 9 = .ok (.getfield 72, 3) := by decide +kernel
theorem dX11_feature_12 : decode cX11_feature 12 = .ok (.if_icmp .ge 21, 3) := by decide +kernel
theorem dX11_feature_15 : decode cX11_feature 15 = .ok (.aload_n 0, 1) := by decide +kernel
theorem dX11_feature_16 : decode cX11_feature 16 = .ok (.getfield 25, 3) := by decide +kernel
theorem dX11_feature_19 : decode cX11_feature 19 = .ok (.iload_n 1, 1) := by decide +kernel
theorem dX11_feature_20 : decode cX11_feature 20 = .ok (.aload_n 0, 1) := by decide +kernel
theorem dX11_feature_21 : decode cX11_feature 21 = .ok (.getfield 7, 3) := by decide +kernel
theorem dX11_feature_24 : decode cX11_feature 24 = .ok (.iload_n 1, 1) := by decide +kernel
theorem dX11_feature_25 : decode cX11_feature 25 = .ok (.iaload, 1) := by decide +kernel
theorem dX11_feature_26 : decode cX11_feature 26 = .ok (.iastore, 1) := by decide +kernel
theorem dX11_feature_27 : decode cX11_feature 27 = .ok (.iinc 1 1, 3) := by decide +kernel
theorem dX11_feature_30 : decode cX11_feature 30 = .ok (.goto (-23), 3) := by decide +kernel
theorem dX11_feature_33 : decode cX11_feature 33 = .ok (.aload_n 0, 1) := by decide +kernel
theorem dX11_feature_34 : decode cX11_feature 34 = .ok (.aload_n 0, 1) := by decide +kernel
theorem dX11_feature_35 : decode cX11_feature 35 = .ok (.getfield 72, 3) := by decide +kernel
theorem dX11_feature_38 : decode cX11_feature 38 = .ok (.invokevirtual 143, 3) := by decide +kernel
theorem dX11_feature_41 : decode cX11_feature 41 = .ok (.istore_n 1, 1) := by decide +kernel
theorem dX11_feature_42 : decode cX11_feature 42 = .ok (.iconst 0, 1) := by decide +kernel
theorem dX11_feature_43 : decode cX11_feature 43 = .ok (.istore_n 2, 1) := by decide +kernel
theorem dX11_feature_44 : decode cX11_feature 44 = .ok (.iconst 0, 1) := by decide +kernel
theorem dX11_feature_45 : decode cX11_feature 45 = .ok (.istore_n 3, 1) := by decide +kernel
theorem dX11_feature_46 : decode cX11_feature 46 = .ok (.iconst 1, 1) := by decide +kernel
theorem dX11_feature_47 : decode cX11_feature 47 = .ok (.istore 4, 2) := by decide +kernel
theorem dX11_feature_49 : decode cX11_feature 49 = .ok (.iload 4, 2) := by decide +kernel
theorem dX11_feature_51 : decode cX11_feature 51 = .ok (.aload_n 0, 1) := by decide +kernel
theorem dX11_feature_52 : decode cX11_feature 52 = .ok (.getfield 72, 3) := by decide +kernel
theorem dX11_feature_55 : decode cX11_feature 55 = .ok (.if_icmp .ge 100, 3) := by decide +kernel
theorem dX11_feature_58 : decode cX11_feature 58 = .ok (.aload_n 0, 1) := by decide +kernel
theorem dX11_feature_59 : decode cX11_feature 59 = .ok (.getfield 25, 3) := by decide +kernel
theorem dX11_feature_62 : decode cX11_feature 62 = .ok (.iload 4, 2) := by decide +kernel
theorem dX11_feature_64 : decode cX11_feature 64 = .ok (.iaload, 1) := by decide +kernel
theorem dX11_feature_65 : decode cX11_feature 65 = .ok (.aload_n 0, 1) := by decide +kernel
theorem dX11_feature_66 : decode cX11_feature 66 = .ok (.getfield 25, 3) := by decide +kernel
theorem dX11_feature_69 : decode cX11_feature 69 = .ok (.iload 4, 2) := by decide +kernel
theorem dX11_feature_71 : decode cX11_feature 71 = .ok (.iconst 1, 1) := by decide +kernel
theorem dX11_feature_72 : decode cX11_feature 72 = .ok (.isub, 1) := by decide +kernel
theorem dX11_feature_73 : decode cX11_feature 73 = .ok (.iaload, 1) := by decide +kernel
theorem dX11_feature_74 : decode cX11_feature 74 = .ok (.if_icmp .ge 23, 3) := by decide +kernel
theorem dX11_feature_77 : decode cX11_feature 77 = .ok (.aload_n 0, 1) := by decide +kernel
theorem dX11_feature_78 : decode cX11_feature 78 = .ok (.getfield 25, 3) := by decide +kernel
theorem dX11_feature_81 : decode cX11_feature 81 = .ok (.iload 4, 2) := by decide +kernel
theorem dX11_feature_83 : decode cX11_feature 83 = .ok (.iconst 1, 1) := by decide +kernel
theorem dX11_feature_84 : decode cX11_feature 84 = .ok (.isub, 1) := by decide +kernel
theorem dX11_feature_85 : decode cX11_feature 85 = .ok (.iaload, 1) := by decide +kernel
theorem dX11_feature_86 : decode cX11_feature 86 = .ok (.aload_n 0, 1) := by decide +kernel
theorem dX11_feature_87 : decode cX11_feature 87 = .ok (.getfield 25, 3) := by decide +kernel
theorem dX11_feature_90 : decode cX11_feature 90 = .ok (.iload 4, 2) := by decide +kernel
theorem dX11_feature_92 : decode cX11_feature 92 = .ok (.iaload, 1) := by decide +kernel
theorem dX11_feature_93 : decode cX11_feature 93 = .ok (.isub, 1) := by decide +kernel
theorem dX11_feature_94 : decode cX11_feature 94 = .ok (.goto 20, 3) := by decide +kernel
theorem dX11_feature_97 : decode cX11_feature 97 = .ok (.aload_n 0, 1) := by decide +kernel
theorem dX11_feature_98 : decode cX11_feature 98 = .ok (.getfield 25, 3) := by decide +kernel
theorem dX11_feature_101 : decode cX11_feature 101 = .ok (.iload 4, 2) := by decide +kernel
theorem dX11_feature_103 : decode cX11_feature 103 = .ok (.iaload, 1) := by decide +kernel
theorem dX11_feature_104 : decode cX11_feature 104 = .ok (.aload_n 0, 1) := by decide +kernel
theorem dX11_feature_105 : decode cX11_feature 105 = .ok (.getfield 25, 3) := by decide +kernel
theorem dX11_feature_108 : decode cX11_feature 108 = .ok (.iload 4, 2) := by decide +kernel
theorem dX11_feature_110 : decode cX11_feature 110 = .ok (.iconst 1, 1) := by decide +kernel
theorem dX11_feature_111 : decode cX11_feature 111 = .ok (.isub, 1) := by decide +kernel
theorem dX11_feature_112 : decode cX11_feature 112 = .ok (.iaload, 1) := by decide +kernel
theorem dX11_feature_113 : decode cX11_feature 113 = .ok (.isub, 1) := by decide +kernel
theorem dX11_feature_114 : decode cX11_feature 114 = .ok (.istore 5, 2) := by decide +kernel
theorem dX11_feature_116 : decode cX11_feature 116 = .ok (.iload_n 2, 1) := by decide +kernel
theorem dX11_feature_117 : decode cX11_feature 117 = .ok (.iload 5, 2) := by decide +kernel
theorem dX11_feature_119 : decode cX11_feature 119 = .ok (.ifCond .ne 7, 3) := by decide +kernel
theorem dX11_feature_122 : decode cX11_feature 122 = .ok (.iconst 1, 1) := by decide +kernel
theorem dX11_feature_123 : decode cX11_feature 123 = .ok (.goto 4, 3) := by decide +kernel
theorem dX11_feature_126 : decode cX11_feature 126 = .ok (.iconst 0, 1) := by decide +kernel
theorem dX11_feature_127 : decode cX11_feature 127 = .ok (.iadd, 1) := by decide +kernel
theorem dX11_feature_128 : decode cX11_feature 128 = .ok (.istore_n 2, 1) := by decide +kernel
theorem dX11_feature_129 : decode cX11_feature 129 = .ok (.iload_n 3, 1) := by decide +kernel
theorem dX11_feature_130 : decode cX11_feature 130 = .ok (.iload 5, 2) := by decide +kernel
theorem dX11_feature_132 : decode cX11_feature 132 = .ok (.iconst 1, 1) := by decide +kernel
theorem dX11_feature_133 : decode cX11_feature 133 = .ok (.if_icmp .eq 9, 3) := by decide +kernel
theorem dX11_feature_136 : decode cX11_feature 136 = .ok (.iload 5, 2) := by decide +kernel
theorem dX11_feature_138 : decode cX11_feature 138 = .ok (.iconst 2, 1) := by decide +kernel
theorem dX11_feature_139 : decode cX11_feature 139 = .ok (.if_icmp .ne 7, 3) := by decide +kernel
theorem dX11_feature_142 : decode cX11_feature 142 = .ok (.iconst 1, 1) := by decide +kernel
theorem dX11_feature_143 : decode cX11_feature 143 = .ok (.goto 4, 3) := by decide +kernel
theorem dX11_feature_146 : decode cX11_feature 146 = .ok (.iconst 0, 1) := by decide +kernel
theorem dX11_feature_147 : decode cX11_feature 147 = .ok (.iadd, 1) := by decide +kernel
theorem dX11_feature_148 : decode cX11_feature 148 = .ok (.istore_n 3, 1) := by decide +kernel
theorem dX11_feature_149 : decode cX11_feature 149 = .ok (.iinc 4 1, 3) := by decide +kernel
theorem dX11_feature_152 : decode cX11_feature 152 = .ok (.goto (-103), 3) := by decide +kernel
theorem dX11_feature_155 : decode cX11_feature 155 = .ok (.iload_n 1, 1) := by decide +kernel
theorem dX11_feature_156 : decode cX11_feature 156 = .ok (.iconst 3, 1) := by decide +kernel
theorem dX11_feature_157 : decode cX11_feature 157 = .ok (.if_icmp .ge 7, 3) := by decide +kernel
theorem dX11_feature_160 : decode cX11_feature 160 = .ok (.iconst 0, 1) := by decide +kernel
theorem dX11_feature_161 : decode cX11_feature 161 = .ok (.goto 24, 3) := by decide +kernel
theorem dX11_feature_164 : decode cX11_feature 164 = .ok (.iload_n 1, 1) := by decide +kernel
theorem dX11_feature_165 : decode cX11_feature 165 = .ok (.bipush 17, 2) := by decide +kernel
theorem dX11_feature_167 : decode cX11_feature 167 = .ok (.if_icmp .ge 7, 3) := by decide +kernel
theorem dX11_feature_170 : decode cX11_feature 170 = .ok (.iconst 1, 1) := by decide +kernel
theorem dX11_feature_171 : decode cX11_feature 171 = .ok (.goto 14, 3) := by decide +kernel
theorem dX11_feature_174 : decode cX11_feature 174 = .ok (.iload_n 1, 1) := by decide +kernel
theorem dX11_feature_175 : decode cX11_feature 175 = .ok (.bipush 65, 2) := by decide +kernel
theorem dX11_feature_177 : decode cX11_feature 177 = .ok (.if_icmp .ge 7, 3) := by decide +kernel
theorem dX11_feature_180 : decode cX11_feature 180 = .ok (.iconst 2, 1) := by decide +kernel
theorem dX11_feature_181 : decode cX11_feature 181 = .ok (.goto 4, 3) := by decide +kernel
theorem dX11_feature_184 : decode cX11_feature 184 = .ok (.iconst 3, 1) := by decide +kernel
theorem dX11_feature_185 : decode cX11_feature 185 = .ok (.istore 4, 2) := by decide +kernel
theorem dX11_feature_187 : decode cX11_feature 187 = .ok (.aload_n 0, 1) := by decide +kernel
theorem dX11_feature_188 : decode cX11_feature 188 = .ok (.getfield 72, 3) := by decide +kernel
theorem dX11_feature_191 : decode cX11_feature 191 = .ok (.ifCond .ne 7, 3) := by decide +kernel
theorem dX11_feature_194 : decode cX11_feature 194 = .ok (.iconst 0, 1) := by decide +kernel
theorem dX11_feature_195 : decode cX11_feature 195 = .ok (.goto 11, 3) := by decide +kernel
theorem dX11_feature_198 : decode cX11_feature 198 = .ok (.iconst 4, 1) := by decide +kernel
theorem dX11_feature_199 : decode cX11_feature 199 = .ok (.iload_n 2, 1) := by decide +kernel
theorem dX11_feature_200 : decode cX11_feature 200 = .ok (.imul, 1) := by decide +kernel
theorem dX11_feature_201 : decode cX11_feature 201 = .ok (.aload_n 0, 1) := by decide +kernel
theorem dX11_feature_202 : decode cX11_feature 202 = .ok (.getfield 72, 3) := by decide +kernel
theorem dX11_feature_205 : decode cX11_feature 205 = .ok (.idiv, 1) := by decide +kernel
theorem dX11_feature_206 : decode cX11_feature 206 = .ok (.istore 5, 2) := by decide +kernel
theorem dX11_feature_208 : decode cX11_feature 208 = .ok (.aload_n 0, 1) := by decide +kernel
theorem dX11_feature_209 : decode cX11_feature 209 = .ok (.getfield 72, 3) := by decide +kernel
theorem dX11_feature_212 : decode cX11_feature 212 = .ok (.ifCond .ne 7, 3) := by decide +kernel
theorem dX11_feature_215 : decode cX11_feature 215 = .ok (.iconst 0, 1) := by decide +kernel
theorem dX11_feature_216 : decode cX11_feature 216 = .ok (.goto 11, 3) := by decide +kernel
theorem dX11_feature_219 : decode cX11_feature 219 = .ok (.iconst 4, 1) := by decide +kernel
theorem dX11_feature_220 : decode cX11_feature 220 = .ok (.iload_n 3, 1) := by decide +kernel
theorem dX11_feature_221 : decode cX11_feature 221 = .ok (.imul, 1) := by decide +kernel
theorem dX11_feature_222 : decode cX11_feature 222 = .ok (.aload_n 0, 1) := by decide +kernel
theorem dX11_feature_223 : decode cX11_feature 223 = .ok (.getfield 72, 3) := by decide +kernel
theorem dX11_feature_226 : decode cX11_feature 226 = .ok (.idiv, 1) := by decide +kernel
theorem dX11_feature_227 : decode cX11_feature 227 = .ok (.istore 6, 2) := by decide +kernel
theorem dX11_feature_229 : decode cX11_feature 229 = .ok (.bipush 16, 2) := by decide +kernel
theorem dX11_feature_231 : decode cX11_feature 231 = .ok (.iload 4, 2) := by decide +kernel
theorem dX11_feature_233 : decode cX11_feature 233 = .ok (.imul, 1) := by decide +kernel
theorem dX11_feature_234 : decode cX11_feature 234 = .ok (.iconst 4, 1) := by decide +kernel
theorem dX11_feature_235 : decode cX11_feature 235 = .ok (.iload 5, 2) := by decide +kernel
theorem dX11_feature_237 : decode cX11_feature 237 = .ok (.iconst 3, 1) := by decide +kernel
theorem dX11_feature_238 : decode cX11_feature 238 = .ok (.if_icmp .le 7, 3) := by decide +kernel
theorem dX11_feature_241 : decode cX11_feature 241 = .ok (.iconst 3, 1) := by decide +kernel
theorem dX11_feature_242 : decode cX11_feature 242 = .ok (.goto 5, 3) := by decide +kernel
theorem dX11_feature_245 : decode cX11_feature 245 = .ok (.iload 5, 2) := by decide +kernel
theorem dX11_feature_247 : decode cX11_feature 247 = .ok (.imul, 1) := by decide +kernel
theorem dX11_feature_248 : decode cX11_feature 248 = .ok (.iadd, 1) := by decide +kernel
theorem dX11_feature_249 : decode cX11_feature 249 = .ok (.iload 6, 2) := by decide +kernel
theorem dX11_feature_251 : decode cX11_feature 251 = .ok (.iconst 3, 1) := by decide +kernel
theorem dX11_feature_252 : decode cX11_feature 252 = .ok (.if_icmp .le 7, 3) := by decide +kernel
theorem dX11_feature_255 : decode cX11_feature 255 = .ok (.iconst 3, 1) := by decide +kernel
theorem dX11_feature_256 : decode cX11_feature 256 = .ok (.goto 5, 3) := by decide +kernel
theorem dX11_feature_259 : decode cX11_feature 259 = .ok (.iload 6, 2) := by decide +kernel
theorem dX11_feature_261 : decode cX11_feature 261 = .ok (.iadd, 1) := by decide +kernel
theorem dX11_feature_262 : decode cX11_feature 262 = .ok (.ireturn, 1) := by decide +kernel
theorem dX11_learn_0 : decode cX11_learn 0 = .ok (.aload_n 0, 1) := by decide +kernel
theorem dX11_learn_1 : decode cX11_learn 1 = .ok (.invokevirtual 196, 3) := by decide +kernel
theorem dX11_learn_4 : decode cX11_learn 4 = .ok (.istore_n 1, 1) := by decide +kernel
theorem dX11_learn_5 : decode cX11_learn 5 = .ok (.aload_n 0, 1) := by decide +kernel
theorem dX11_learn_6 : decode cX11_learn 6 = .ok (.getfield 68, 3) := by decide +kernel
theorem dX11_learn_9 : decode cX11_learn 9 = .ok (.ifCond .ne 6, 3) := by decide +kernel
theorem dX11_learn_12 : decode cX11_learn 12 = .ok (.bipush (-3), 2) := by decide +kernel
theorem dX11_learn_14 : decode cX11_learn 14 = .ok (.ireturn, 1) := by decide +kernel
theorem dX11_learn_15 : decode cX11_learn 15 = .ok (.aload_n 0, 1) := by decide +kernel
theorem dX11_learn_16 : decode cX11_learn 16 = .ok (.getfield 55, 3) := by decide +kernel
theorem dX11_learn_19 : decode cX11_learn 19 = .ok (.iload_n 1, 1) := by decide +kernel
theorem dX11_learn_20 : decode cX11_learn 20 = .ok (.aload_n 0, 1) := by decide +kernel
theorem dX11_learn_21 : decode cX11_learn 21 = .ok (.getfield 52, 3) := by decide +kernel
theorem dX11_learn_24 : decode cX11_learn 24 = .ok (.iconst 2, 1) := by decide +kernel
theorem dX11_learn_25 : decode cX11_learn 25 = .ok (.iaload, 1) := by decide +kernel
theorem dX11_learn_26 : decode cX11_learn 26 = .ok (.iastore, 1) := by decide +kernel
theorem dX11_learn_27 : decode cX11_learn 27 = .ok (.iload_n 1, 1) := by decide +kernel
theorem dX11_learn_28 : decode cX11_learn 28 = .ok (.ireturn, 1) := by decide +kernel
theorem dX11_learned_0 : decode cX11_learned 0 = .ok (.aload_n 0, 1) := by decide +kernel
theorem dX11_learned_1 : decode cX11_learned 1 = .ok (.iconst 0, 1) := by decide +kernel
theorem dX11_learned_2 : decode cX11_learned 2 = .ok (.putfield 65, 3) := by decide +kernel
theorem dX11_learned_5 : decode cX11_learned 5 = .ok (.iload_n 1, 1) := by decide +kernel
theorem dX11_learned_6 : decode cX11_learned 6 = .ok (.iconst 0, 1) := by decide +kernel
theorem dX11_learned_7 : decode cX11_learned 7 = .ok (.bipush 63, 2) := by decide +kernel
theorem dX11_learned_9 : decode cX11_learned 9 = .ok (.invokestatic 75, 3) := by decide +kernel
theorem dX11_learned_12 : decode cX11_learned 12 = .ok (.ifCond .eq 12, 3) := by decide +kernel
theorem dX11_learned_15 : decode cX11_learned 15 = .ok (.aload_n 0, 1) := by decide +kernel
theorem dX11_learned_16 : decode cX11_learned 16 = .ok (.getfield 55, 3) := by decide +kernel
theorem dX11_learned_19 : decode cX11_learned 19 = .ok (.iload_n 1, 1) := by decide +kernel
theorem dX11_learned_20 : decode cX11_learned 20 = .ok (.iaload, 1) := by decide +kernel
theorem dX11_learned_21 : decode cX11_learned 21 = .ok (.goto 4, 3) := by decide +kernel
theorem dX11_learned_24 : decode cX11_learned 24 = .ok (.iconst (-1), 1) := by decide +kernel
theorem dX11_learned_25 : decode cX11_learned 25 = .ok (.ireturn, 1) := by decide +kernel
theorem dX11_share_0 : decode cX11_share 0 = .ok (.aload_n 0, 1) := by decide +kernel
theorem dX11_share_1 : decode cX11_share 1 = .ok (.iload_n 2, 1) := by decide +kernel
theorem dX11_share_2 : decode cX11_share 2 = .ok (.ifCond .ne 7, 3) := by decide +kernel
theorem dX11_share_5 : decode cX11_share 5 = .ok (.iconst 1, 1) := by decide +kernel
theorem dX11_share_6 : decode cX11_share 6 = .ok (.goto 4, 3) := by decide +kernel
theorem dX11_share_9 : decode cX11_share 9 = .ok (.iconst 0, 1) := by decide +kernel
theorem dX11_share_10 : decode cX11_share 10 = .ok (.putfield 65, 3) := by decide +kernel
theorem dX11_share_13 : decode cX11_share 13 = .ok (.iload_n 2, 1) := by decide +kernel
theorem dX11_share_14 : decode cX11_share 14 = .ok (.ifCond .ne 7, 3) := by decide +kernel
theorem dX11_share_17 : decode cX11_share 17 = .ok (.lconst 0, 1) := by decide +kernel
theorem dX11_share_18 : decode cX11_share 18 = .ok (.goto 12, 3) := by decide +kernel
theorem dX11_share_21 : decode cX11_share 21 = .ok (.ldc2_w 199, 3) := by decide +kernel
theorem dX11_share_24 : decode cX11_share 24 = .ok (.iload_n 1, 1) := by decide +kernel
theorem dX11_share_25 : decode cX11_share 25 = .ok (.i2l, 1) := by decide +kernel
theorem dX11_share_26 : decode cX11_share 26 = .ok (.lmul, 1) := by decide +kernel
theorem dX11_share_27 : decode cX11_share 27 = .ok (.iload_n 2, 1) := by decide +kernel
theorem dX11_share_28 : decode cX11_share 28 = .ok (.i2l, 1) := by decide +kernel
theorem dX11_share_29 : decode cX11_share 29 = .ok (.ldiv, 1) := by decide +kernel
theorem dX11_share_30 : decode cX11_share 30 = .ok (.lreturn, 1) := by decide +kernel
theorem dX11_pack_0 : decode cX11_pack 0 = .ok (.iload_n 1, 1) := by decide +kernel
theorem dX11_pack_1 : decode cX11_pack 1 = .ok (.iconst 0, 1) := by decide +kernel
theorem dX11_pack_2 : decode cX11_pack 2 = .ok (.aload_n 0, 1) := by decide +kernel
theorem dX11_pack_3 : decode cX11_pack 3 = .ok (.invokevirtual 93, 3) := by decide +kernel
theorem dX11_pack_6 : decode cX11_pack 6 = .ok (.iconst 1, 1) := by decide +kernel
theorem dX11_pack_7 : decode cX11_pack 7 = .ok (.isub, 1) := by decide +kernel
theorem dX11_pack_8 : decode cX11_pack 8 = .ok (.invokestatic 75, 3) := by decide +kernel
theorem dX11_pack_11 : decode cX11_pack 11 = .ok (.ifCond .ne 5, 3) := by decide +kernel
theorem dX11_pack_14 : decode cX11_pack 14 = .ok (.iconst (-1), 1) := by decide +kernel
theorem dX11_pack_15 : decode cX11_pack 15 = .ok (.ireturn, 1) := by decide +kernel
theorem dX11_pack_16 : decode cX11_pack 16 = .ok (.aload_n 0, 1) := by decide +kernel
theorem dX11_pack_17 : decode cX11_pack 17 = .ok (.iload_n 1, 1) := by decide +kernel
theorem dX11_pack_18 : decode cX11_pack 18 = .ok (.invokevirtual 189, 3) := by decide +kernel
theorem dX11_pack_21 : decode cX11_pack 21 = .ok (.aload_n 0, 1) := by decide +kernel
theorem dX11_pack_22 : decode cX11_pack 22 = .ok (.aload_n 0, 1) := by decide +kernel
theorem dX11_pack_23 : decode cX11_pack 23 = .ok (.getfield 117, 3) := by decide +kernel
theorem dX11_pack_26 : decode cX11_pack 26 = .ok (.putfield 80, 3) := by decide +kernel
theorem dX11_pack_29 : decode cX11_pack 29 = .ok (.iconst 0, 1) := by decide +kernel
theorem dX11_pack_30 : decode cX11_pack 30 = .ok (.istore_n 2, 1) := by decide +kernel
theorem dX11_pack_31 : decode cX11_pack 31 = .ok (.iload_n 2, 1) := by decide +kernel
theorem dX11_pack_32 : decode cX11_pack 32 = .ok (.aload_n 0, 1) := by decide +kernel
theorem dX11_pack_33 : decode cX11_pack 33 = .ok (.getfield 117, 3) := by decide +kernel
theorem dX11_pack_36 : decode cX11_pack 36 = .ok (.if_icmp .ge 21, 3) := by decide +kernel
theorem dX11_pack_39 : decode cX11_pack 39 = .ok (.aload_n 0, 1) := by decide +kernel
theorem dX11_pack_40 : decode cX11_pack 40 = .ok (.getfield 13, 3) := by decide +kernel
theorem dX11_pack_43 : decode cX11_pack 43 = .ok (.iload_n 2, 1) := by decide +kernel
theorem dX11_pack_44 : decode cX11_pack 44 = .ok (.aload_n 0, 1) := by decide +kernel
theorem dX11_pack_45 : decode cX11_pack 45 = .ok (.getfield 31, 3) := by decide +kernel
theorem dX11_pack_48 : decode cX11_pack 48 = .ok (.iload_n 2, 1) := by decide +kernel
theorem dX11_pack_49 : decode cX11_pack 49 = .ok (.iaload, 1) := by decide +kernel
theorem dX11_pack_50 : decode cX11_pack 50 = .ok (.iastore, 1) := by decide +kernel
theorem dX11_pack_51 : decode cX11_pack 51 = .ok (.iinc 2 1, 3) := by decide +kernel
theorem dX11_pack_54 : decode cX11_pack 54 = .ok (.goto (-23), 3) := by decide +kernel
theorem dX11_pack_57 : decode cX11_pack 57 = .ok (.aload_n 0, 1) := by decide +kernel
theorem dX11_pack_58 : decode cX11_pack 58 = .ok (.getfield 80, 3) := by decide +kernel
theorem dX11_pack_61 : decode cX11_pack 61 = .ok (.ireturn, 1) := by decide +kernel
theorem dX11_alter_0 : decode cX11_alter 0 = .ok (.aload_n 0, 1) := by decide +kernel
theorem dX11_alter_1 : decode cX11_alter 1 = .ok (.iconst 0, 1) := by decide +kernel
theorem dX11_alter_2 : decode cX11_alter 2 = .ok (.putfield 65, 3) := by decide +kernel
theorem dX11_alter_5 : decode cX11_alter 5 = .ok (.iload_n 1, 1) := by decide +kernel
theorem dX11_alter_6 : decode cX11_alter 6 = .ok (.iconst 0, 1) := by decide +kernel
theorem dX11_alter_7 : decode cX11_alter 7 = .ok (.aload_n 0, 1) := by decide +kernel
theorem dX11_alter_8 : decode cX11_alter 8 = .ok (.getfield 80, 3) := by decide +kernel
theorem dX11_alter_11 : decode cX11_alter 11 = .ok (.iconst 1, 1) := by decide +kernel
theorem dX11_alter_12 : decode cX11_alter 12 = .ok (.isub, 1) := by decide +kernel
theorem dX11_alter_13 : decode cX11_alter 13 = .ok (.invokestatic 75, 3) := by decide +kernel
theorem dX11_alter_16 : decode cX11_alter 16 = .ok (.ifCond .eq 14, 3) := by decide +kernel
theorem dX11_alter_19 : decode cX11_alter 19 = .ok (.iload_n 2, 1) := by decide +kernel
theorem dX11_alter_20 : decode cX11_alter 20 = .ok (.iconst 0, 1) := by decide +kernel
theorem dX11_alter_21 : decode cX11_alter 21 = .ok (.sipush 255, 3) := by decide +kernel
theorem dX11_alter_24 : decode cX11_alter 24 = .ok (.invokestatic 75, 3) := by decide +kernel
theorem dX11_alter_27 : decode cX11_alter 27 = .ok (.ifCond .ne 5, 3) := by decide +kernel
theorem dX11_alter_30 : decode cX11_alter 30 = .ok (.iconst (-1), 1) := by decide +kernel
theorem dX11_alter_31 : decode cX11_alter 31 = .ok (.ireturn, 1) := by decide +kernel
theorem dX11_alter_32 : decode cX11_alter 32 = .ok (.aload_n 0, 1) := by decide +kernel
theorem dX11_alter_33 : decode cX11_alter 33 = .ok (.getfield 13, 3) := by decide +kernel
theorem dX11_alter_36 : decode cX11_alter 36 = .ok (.iload_n 1, 1) := by decide +kernel
theorem dX11_alter_37 : decode cX11_alter 37 = .ok (.iaload, 1) := by decide +kernel
theorem dX11_alter_38 : decode cX11_alter 38 = .ok (.istore_n 3, 1) := by decide +kernel
theorem dX11_alter_39 : decode cX11_alter 39 = .ok (.aload_n 0, 1) := by decide +kernel
theorem dX11_alter_40 : decode cX11_alter 40 = .ok (.getfield 13, 3) := by decide +kernel
theorem dX11_alter_43 : decode cX11_alter 43 = .ok (.iload_n 1, 1) := by decide +kernel
theorem dX11_alter_44 : decode cX11_alter 44 = .ok (.iload_n 2, 1) := by decide +kernel
theorem dX11_alter_45 : decode cX11_alter 45 = .ok (.iastore, 1) := by decide +kernel
theorem dX11_alter_46 : decode cX11_alter 46 = .ok (.iload_n 3, 1) := by decide +kernel
theorem dX11_alter_47 : decode cX11_alter 47 = .ok (.ireturn, 1) := by decide +kernel
theorem dX11_cut_0 : decode cX11_cut 0 = .ok (.aload_n 0, 1) := by decide +kernel
theorem dX11_cut_1 : decode cX11_cut 1 = .ok (.iconst 0, 1) := by decide +kernel
theorem dX11_cut_2 : decode cX11_cut 2 = .ok (.putfield 65, 3) := by decide +kernel
theorem dX11_cut_5 : decode cX11_cut 5 = .ok (.iload_n 1, 1) := by decide +kernel
theorem dX11_cut_6 : decode cX11_cut 6 = .ok (.iconst 0, 1) := by decide +kernel
theorem dX11_cut_7 : decode cX11_cut 7 = .ok (.aload_n 0, 1) := by decide +kernel
theorem dX11_cut_8 : decode cX11_cut 8 = .ok (.getfield 80, 3) := by decide +kernel
theorem dX11_cut_11 : decode cX11_cut 11 = .ok (.invokestatic 75, 3) := by decide +kernel
theorem dX11_cut_14 : decode cX11_cut 14 = .ok (.ifCond .ne 5, 3) := by decide +kernel
theorem dX11_cut_17 : decode cX11_cut 17 = .ok (.iconst (-1), 1) := by decide +kernel
theorem dX11_cut_18 : decode cX11_cut 18 = .ok (.ireturn, 1) := by decide +kernel
theorem dX11_cut_19 : decode cX11_cut 19 = .ok (.aload_n 0, 1) := by decide +kernel
theorem dX11_cut_20 : decode cX11_cut 20 = .ok (.getfield 80, 3) := by decide +kernel
theorem dX11_cut_23 : decode cX11_cut 23 = .ok (.iload_n 1, 1) := by decide +kernel
theorem dX11_cut_24 : decode cX11_cut 24 = .ok (.isub, 1) := by decide +kernel
theorem dX11_cut_25 : decode cX11_cut 25 = .ok (.istore_n 2, 1) := by decide +kernel
theorem dX11_cut_26 : decode cX11_cut 26 = .ok (.aload_n 0, 1) := by decide +kernel
theorem dX11_cut_27 : decode cX11_cut 27 = .ok (.iload_n 1, 1) := by decide +kernel
theorem dX11_cut_28 : decode cX11_cut 28 = .ok (.putfield 80, 3) := by decide +kernel
theorem dX11_cut_31 : decode cX11_cut 31 = .ok (.iload_n 2, 1) := by decide +kernel
theorem dX11_cut_32 : decode cX11_cut 32 = .ok (.ireturn, 1) := by decide +kernel
theorem dX11_fail_0 : decode cX11_fail 0 = .ok (.aload_n 0, 1) := by decide +kernel
theorem dX11_fail_1 : decode cX11_fail 1 = .ok (.getfield 201, 3) := by decide +kernel
theorem dX11_fail_4 : decode cX11_fail 4 = .ok (.ifCond .ne 13, 3) := by decide +kernel
theorem dX11_fail_7 : decode cX11_fail 7 = .ok (.aload_n 0, 1) := by decide +kernel
theorem dX11_fail_8 : decode cX11_fail 8 = .ok (.iload_n 1, 1) := by decide +kernel
theorem dX11_fail_9 : decode cX11_fail 9 = .ok (.putfield 201, 3) := by decide +kernel
theorem dX11_fail_12 : decode cX11_fail 12 = .ok (.aload_n 0, 1) := by decide +kernel
theorem dX11_fail_13 : decode cX11_fail 13 = .ok (.iload_n 2, 1) := by decide +kernel
theorem dX11_fail_14 : decode cX11_fail 14 = .ok (.putfield 58, 3) := by decide +kernel
theorem dX11_fail_17 : decode cX11_fail 17 = .ok (.return_, 1) := by decide +kernel
theorem dX11_next_0 : decode cX11_next 0 = .ok (.aload_n 0, 1) := by decide +kernel
theorem dX11_next_1 : decode cX11_next 1 = .ok (.getfield 201, 3) := by decide +kernel
theorem dX11_next_4 : decode cX11_next 4 = .ok (.ifCond .ne 14, 3) := by decide +kernel
theorem dX11_next_7 : decode cX11_next 7 = .ok (.aload_n 0, 1) := by decide +kernel
theorem dX11_next_8 : decode cX11_next 8 = .ok (.getfield 204, 3) := by decide +kernel
theorem dX11_next_11 : decode cX11_next 11 = .ok (.aload_n 0, 1) := by decide +kernel
theorem dX11_next_12 : decode cX11_next 12 = .ok (.getfield 80, 3) := by decide +kernel
theorem dX11_next_15 : decode cX11_next 15 = .ok (.if_icmp .lt 14, 3) := by decide +kernel
theorem dX11_next_18 : decode cX11_next 18 = .ok (.aload_n 0, 1) := by decide +kernel
theorem dX11_next_19 : decode cX11_next 19 = .ok (.iconst 2, 1) := by decide +kernel
theorem dX11_next_20 : decode cX11_next 20 = .ok (.aload_n 0, 1) := by decide +kernel
theorem dX11_next_21 : decode cX11_next 21 = .ok (.getfield 80, 3) := by decide +kernel
theorem dX11_next_24 : decode cX11_next 24 = .ok (.invokevirtual 207, 3) := by decide +kernel
theorem dX11_next_27 : decode cX11_next 27 = .ok (.iconst 0, 1) := by decide +kernel
theorem dX11_next_28 : decode cX11_next 28 = .ok (.ireturn, 1) := by decide +kernel
theorem dX11_next_29 : decode cX11_next 29 = .ok (.aload_n 0, 1) := by decide +kernel
theorem dX11_next_30 : decode cX11_next 30 = .ok (.dup, 1) := by decide +kernel
theorem dX11_next_31 : decode cX11_next 31 = .ok (.getfield 204, 3) := by decide +kernel
theorem dX11_next_34 : decode cX11_next 34 = .ok (.iconst 1, 1) := by decide +kernel
theorem dX11_next_35 : decode cX11_next 35 = .ok (.iadd, 1) := by decide +kernel
theorem dX11_next_36 : decode cX11_next 36 = .ok (.putfield 204, 3) := by decide +kernel
theorem dX11_next_39 : decode cX11_next 39 = .ok (.aload_n 0, 1) := by decide +kernel
theorem dX11_next_40 : decode cX11_next 40 = .ok (.getfield 13, 3) := by decide +kernel
theorem dX11_next_43 : decode cX11_next 43 = .ok (.aload_n 0, 1) := by decide +kernel
theorem dX11_next_44 : decode cX11_next 44 = .ok (.getfield 204, 3) := by decide +kernel
theorem dX11_next_47 : decode cX11_next 47 = .ok (.iconst 1, 1) := by decide +kernel
theorem dX11_next_48 : decode cX11_next 48 = .ok (.isub, 1) := by decide +kernel
theorem dX11_next_49 : decode cX11_next 49 = .ok (.iaload, 1) := by decide +kernel
theorem dX11_next_50 : decode cX11_next 50 = .ok (.ireturn, 1) := by decide +kernel
theorem dX11_must_0 : decode cX11_must 0 = .ok (.iload_n 1, 1) := by decide +kernel
theorem dX11_must_1 : decode cX11_must 1 = .ok (.ifCond .ne 14, 3) := by decide +kernel
theorem dX11_must_4 : decode cX11_must 4 = .ok (.aload_n 0, 1) := by decide +kernel
theorem dX11_must_5 : decode cX11_must 5 = .ok (.iload_n 2, 1) := by decide +kernel
theorem dX11_must_6 : decode cX11_must 6 = .ok (.aload_n 0, 1) := by decide +kernel
theorem dX11_must_7 : decode cX11_must 7 = .ok (.getfield 204, 3) := by decide +kernel
theorem dX11_must_10 : decode cX11_must 10 = .ok (.iconst 1, 1) := by decide +kernel
theorem dX11_must_11 : decode cX11_must 11 = .ok (.isub, 1) := by decide +kernel
theorem dX11_must_12 : decode cX11_must 12 = .ok (.invokevirtual 207, 3) := by decide +kernel
theorem dX11_must_15 : decode cX11_must 15 = .ok (.return_, 1) := by decide +kernel
theorem dX11_bit_0 : decode cX11_bit 0 = .ok (.aload_n 0, 1) := by decide +kernel
theorem dX11_bit_1 : decode cX11_bit 1 = .ok (.getfield 210, 3) := by decide +kernel
theorem dX11_bit_4 : decode cX11_bit 4 = .ok (.bipush 8, 2) := by decide +kernel
theorem dX11_bit_6 : decode cX11_bit 6 = .ok (.if_icmp .ne 13, 3) := by decide +kernel
theorem dX11_bit_9 : decode cX11_bit 9 = .ok (.aload_n 0, 1) := by decide +kernel
theorem dX11_bit_10 : decode cX11_bit 10 = .ok (.invokevirtual 213, 3) := by decide +kernel
theorem dX11_bit_13 : decode cX11_bit 13 = .ok (.istore_n 1, 1) := by decide +kernel
theorem dX11_bit_14 : decode cX11_bit 14 = .ok (.aload_n 0, 1) := by decide +kernel
theorem dX11_bit_15 : decode cX11_bit 15 = .ok (.iconst 0, 1) := by decide +kernel
theorem dX11_bit_16 : decode cX11_bit 16 = .ok (.putfield 210, 3) := by decide +kernel
theorem dX11_bit_19 : decode cX11_bit 19 = .ok (.aload_n 0, 1) := by decide +kernel
theorem dX11_bit_20 : decode cX11_bit 20 = .ok (.dup, 1) := by decide +kernel
theorem dX11_bit_21 : decode cX11_bit 21 = .ok (.getfield 210, 3) := by decide +kernel
theorem dX11_bit_24 : decode cX11_bit 24 = .ok (.iconst 1, 1) := by decide +kernel
theorem dX11_bit_25 : decode cX11_bit 25 = .ok (.iadd, 1) := by decide +kernel
theorem dX11_bit_26 : decode cX11_bit 26 = .ok (.putfield 210, 3) := by decide +kernel
theorem dX11_bit_29 : decode cX11_bit 29 = .ok (.aload_n 0, 1) := by decide +kernel
theorem dX11_bit_30 : decode cX11_bit 30 = .ok (.getfield 201, 3) := by decide +kernel
theorem dX11_bit_33 : decode cX11_bit 33 = .ok (.ifCond .eq 7, 3) := by decide +kernel
theorem dX11_bit_36 : decode cX11_bit 36 = .ok (.iconst 0, 1) := by decide +kernel
theorem dX11_bit_37 : decode cX11_bit 37 = .ok (.goto 24, 3) := by decide +kernel
theorem dX11_bit_40 : decode cX11_bit 40 = .ok (.aload_n 0, 1) := by decide +kernel
theorem dX11_bit_41 : decode cX11_bit 41 = .ok (.getfield 13, 3) := by decide +kernel
theorem dX11_bit_44 : decode cX11_bit 44 = .ok (.aload_n 0, 1) := by decide +kernel
theorem dX11_bit_45 : decode cX11_bit 45 = .ok (.getfield 204, 3) := by decide +kernel
theorem dX11_bit_48 : decode cX11_bit 48 = .ok (.iconst 1, 1) := by decide +kernel
theorem dX11_bit_49 : decode cX11_bit 49 = .ok (.isub, 1) := by decide +kernel
theorem dX11_bit_50 : decode cX11_bit 50 = .ok (.iaload, 1) := by decide +kernel
theorem dX11_bit_51 : decode cX11_bit 51 = .ok (.bipush 8, 2) := by decide +kernel
theorem dX11_bit_53 : decode cX11_bit 53 = .ok (.aload_n 0, 1) := by decide +kernel
theorem dX11_bit_54 : decode cX11_bit 54 = .ok (.getfield 210, 3) := by decide +kernel
theorem dX11_bit_57 : decode cX11_bit 57 = .ok (.isub, 1) := by decide +kernel
theorem dX11_bit_58 : decode cX11_bit 58 = .ok (.ishr, 1) := by decide +kernel
theorem dX11_bit_59 : decode cX11_bit 59 = .ok (.iconst 1, 1) := by decide +kernel
theorem dX11_bit_60 : decode cX11_bit 60 = .ok (.iand, 1) := by decide +kernel
theorem dX11_bit_61 : decode cX11_bit 61 = .ok (.ireturn, 1) := by decide +kernel
theorem dX11_come_0 : decode cX11_come 0 = .ok (.aload_n 0, 1) := by decide +kernel
theorem dX11_come_1 : decode cX11_come 1 = .ok (.getfield 201, 3) := by decide +kernel
theorem dX11_come_4 : decode cX11_come 4 = .ok (.ifCond .ne 23, 3) := by decide +kernel
theorem dX11_come_7 : decode cX11_come 7 = .ok (.aload_n 0, 1) := by decide +kernel
theorem dX11_come_8 : decode cX11_come 8 = .ok (.getfield 25, 3) := by decide +kernel
theorem dX11_come_11 : decode cX11_come 11 = .ok (.aload_n 0, 1) := by decide +kernel
theorem dX11_come_12 : decode cX11_come 12 = .ok (.getfield 216, 3) := by decide +kernel
theorem dX11_come_15 : decode cX11_come 15 = .ok (.iload_n 1, 1) := by decide +kernel
theorem dX11_come_16 : decode cX11_come 16 = .ok (.iastore, 1) := by decide +kernel
theorem dX11_come_17 : decode cX11_come 17 = .ok (.aload_n 0, 1) := by decide +kernel
theorem dX11_come_18 : decode cX11_come 18 = .ok (.dup, 1) := by decide +kernel
theorem dX11_come_19 : decode cX11_come 19 = .ok (.getfield 216, 3) := by decide +kernel
theorem dX11_come_22 : decode cX11_come 22 = .ok (.iconst 1, 1) := by decide +kernel
theorem dX11_come_23 : decode cX11_come 23 = .ok (.iadd, 1) := by decide +kernel
theorem dX11_come_24 : decode cX11_come 24 = .ok (.putfield 216, 3) := by decide +kernel
theorem dX11_come_27 : decode cX11_come 27 = .ok (.return_, 1) := by decide +kernel
theorem dX11_endBits_0 : decode cX11_endBits 0 = .ok (.aload_n 0, 1) := by decide +kernel
theorem dX11_endBits_1 : decode cX11_endBits 1 = .ok (.getfield 201, 3) := by decide +kernel
theorem dX11_endBits_4 : decode cX11_endBits 4 = .ok (.ifCond .ne 32, 3) := by decide +kernel
theorem dX11_endBits_7 : decode cX11_endBits 7 = .ok (.aload_n 0, 1) := by decide +kernel
theorem dX11_endBits_8 : decode cX11_endBits 8 = .ok (.getfield 210, 3) := by decide +kernel
theorem dX11_endBits_11 : decode cX11_endBits 11 = .ok (.bipush 8, 2) := by decide +kernel
theorem dX11_endBits_13 : decode cX11_endBits 13 = .ok (.if_icmp .ge 23, 3) := by decide +kernel
theorem dX11_endBits_16 : decode cX11_endBits 16 = .ok (.aload_n 0, 1) := by decide +kernel
theorem dX11_endBits_17 : decode cX11_endBits 17 = .ok (.aload_n 0, 1) := by decide +kernel
theorem dX11_endBits_18 : decode cX11_endBits 18 = .ok (.invokevirtual 219, 3) := by decide +kernel
theorem dX11_endBits_21 : decode cX11_endBits 21 = .ok (.ifCond .ne 7, 3) := by decide +kernel
theorem dX11_endBits_24 : decode cX11_endBits 24 = .ok (.iconst 1, 1) := by decide +kernel
theorem dX11_endBits_25 : decode cX11_endBits 25 = .ok (.goto 4, 3) := by decide +kernel
theorem dX11_endBits_28 : decode cX11_endBits 28 = .ok (.iconst 0, 1) := by decide +kernel
theorem dX11_endBits_29 : decode cX11_endBits 29 = .ok (.iconst 4, 1) := by decide +kernel
theorem dX11_endBits_30 : decode cX11_endBits 30 = .ok (.invokevirtual 222, 3) := by decide +kernel
theorem dX11_endBits_33 : decode cX11_endBits 33 = .ok (.goto (-33), 3) := by decide +kernel
theorem dX11_endBits_36 : decode cX11_endBits 36 = .ok (.return_, 1) := by decide +kernel
theorem dX11_readItems_0 : decode cX11_readItems 0 = .ok (.aload_n 0, 1) := by decide +kernel
theorem dX11_readItems_1 : decode cX11_readItems 1 = .ok (.getfield 201, 3) := by decide +kernel
theorem dX11_readItems_4 : decode cX11_readItems 4 = .ok (.ifCond .ne 216, 3) := by decide +kernel
theorem dX11_readItems_7 : decode cX11_readItems 7 = .ok (.aload_n 0, 1) := by decide +kernel
theorem dX11_readItems_8 : decode cX11_readItems 8 = .ok (.getfield 216, 3) := by decide +kernel
theorem dX11_readItems_11 : decode cX11_readItems 11 = .ok (.aload_n 0, 1) := by decide +kernel
theorem dX11_readItems_12 : decode cX11_readItems 12 = .ok (.getfield 226, 3) := by decide +kernel
theorem dX11_readItems_15 : decode cX11_readItems 15 = .ok (.if_icmp .ge 205, 3) := by decide +kernel
theorem dX11_readItems_18 : decode cX11_readItems 18 = .ok (.aload_n 0, 1) := by decide +kernel
theorem dX11_readItems_19 : decode cX11_readItems 19 = .ok (.invokevirtual 213, 3) := by decide +kernel
theorem dX11_readItems_22 : decode cX11_readItems 22 = .ok (.istore_n 2, 1) := by decide +kernel
theorem dX11_readItems_23 : decode cX11_readItems 23 = .ok (.iload_n 2, 1) := by decide +kernel
theorem dX11_readItems_24 : decode cX11_readItems 24 = .ok (.sipush 128, 3) := by decide +kernel
theorem dX11_readItems_27 : decode cX11_readItems 27 = .ok (.if_icmp .ge 9, 3) := by decide +kernel
theorem dX11_readItems_30 : decode cX11_readItems 30 = .ok (.iload_n 2, 1) := by decide +kernel
theorem dX11_readItems_31 : decode cX11_readItems 31 = .ok (.iconst 1, 1) := by decide +kernel
theorem dX11_readItems_32 : decode cX11_readItems 32 = .ok (.iadd, 1) := by decide +kernel
theorem dX11_readItems_33 : decode cX11_readItems 33 = .ok (.goto 18, 3) := by decide +kernel
theorem dX11_readItems_36 : decode cX11_readItems 36 = .ok (.iload_n 1, 1) := by decide +kernel
theorem dX11_readItems_37 : decode cX11_readItems 37 = .ok (.ifCond .eq 10, 3) := by decide +kernel
theorem dX11_readItems_40 : decode cX11_readItems 40 = .ok (.iload_n 2, 1) := by decide +kernel
theorem dX11_readItems_41 : decode cX11_readItems 41 = .ok (.bipush 125, 2) := by decide +kernel
theorem dX11_readItems_43 : decode cX11_readItems 43 = .ok (.isub, 1) := by decide +kernel
theorem dX11_readItems_44 : decode cX11_readItems 44 = .ok (.goto 7, 3) := by decide +kernel
theorem dX11_readItems_47 : decode cX11_readItems 47 = .ok (.iload_n 2, 1) := by decide +kernel
theorem dX11_readItems_48 : decode cX11_readItems 48 = .ok (.bipush 126, 2) := by decide +kernel
theorem dX11_readItems_50 : decode cX11_readItems 50 = .ok (.isub, 1) := by decide +kernel
theorem dX11_readItems_51 : decode cX11_readItems 51 = .ok (.istore_n 3, 1) := by decide +kernel
theorem dX11_readItems_52 : decode cX11_readItems 52 = .ok (.aload_n 0, 1) := by decide +kernel
theorem dX11_readItems_53 : decode cX11_readItems 53 = .ok (.aload_n 0, 1) := by decide +kernel
theorem dX11_readItems_54 : decode cX11_readItems 54 = .ok (.getfield 201, 3) := by decide +kernel
theorem dX11_readItems_57 : decode cX11_readItems 57 = .ok (.ifCond .ne 16, 3) := by decide +kernel
theorem dX11_readItems_60 : decode cX11_readItems 60 = .ok (.aload_n 0, 1) := by decide +kernel
theorem dX11_readItems_61 : decode cX11_readItems 61 = .ok (.getfield 216, 3) := by decide +kernel
theorem dX11_readItems_64 : decode cX11_readItems 64 = .ok (.iload_n 3, 1) := by decide +kernel
theorem dX11_readItems_65 : decode cX11_readItems 65 = .ok (.iadd, 1) := by decide +kernel
theorem dX11_readItems_66 : decode cX11_readItems 66 = .ok (.aload_n 0, 1) := by decide +kernel
theorem dX11_readItems_67 : decode cX11_readItems 67 = .ok (.getfield 226, 3) := by decide +kernel
theorem dX11_readItems_70 : decode cX11_readItems 70 = .ok (.if_icmp .gt 7, 3) := by decide +kernel
theorem dX11_readItems_73 : decode cX11_readItems 73 = .ok (.iconst 1, 1) := by decide +kernel
theorem dX11_readItems_74 : decode cX11_readItems 74 = .ok (.goto 4, 3) := by decide +kernel
theorem dX11_readItems_77 : decode cX11_readItems 77 = .ok (.iconst 0, 1) := by decide +kernel
theorem dX11_readItems_78 : decode cX11_readItems 78 = .ok (.iconst 4, 1) := by decide +kernel
theorem dX11_readItems_79 : decode cX11_readItems 79 = .ok (.invokevirtual 222, 3) := by decide +kernel
theorem dX11_readItems_82 : decode cX11_readItems 82 = .ok (.iload_n 2, 1) := by decide +kernel
theorem dX11_readItems_83 : decode cX11_readItems 83 = .ok (.sipush 128, 3) := by decide +kernel
theorem dX11_readItems_86 : decode cX11_readItems 86 = .ok (.if_icmp .ge 36, 3) := by decide +kernel
theorem dX11_readItems_89 : decode cX11_readItems 89 = .ok (.iconst 0, 1) := by decide +kernel
theorem dX11_readItems_90 : decode cX11_readItems 90 = .ok (.istore 4, 2) := by decide +kernel
theorem dX11_readItems_92 : decode cX11_readItems 92 = .ok (.iload 4, 2) := by decide +kernel
theorem dX11_readItems_94 : decode cX11_readItems 94 = .ok (.iload_n 3, 1) := by decide +kernel
theorem dX11_readItems_95 : decode cX11_readItems 95 = .ok (.if_icmp .ge 24, 3) := by decide +kernel
theorem dX11_readItems_98 : decode cX11_readItems 98 = .ok (.aload_n 0, 1) := by decide +kernel
theorem dX11_readItems_99 : decode cX11_readItems 99 = .ok (.getfield 201, 3) := by decide +kernel
theorem dX11_readItems_102 : decode cX11_readItems 102 = .ok (.ifCond .ne 17, 3) := by decide +kernel
theorem dX11_readItems_105 : decode cX11_readItems 105 = .ok (.aload_n 0, 1) := by decide +kernel
theorem dX11_readItems_106 : decode cX11_readItems 106 = .ok (.aload_n 0, 1) := by decide +kernel
theorem dX11_readItems_107 : decode cX11_readItems 107 = .ok (.invokevirtual 213, 3) := by decide +kernel
theorem dX11_readItems_110 : decode cX11_readItems 110 = .ok (.invokevirtual 229, 3) := by decide +kernel
theorem dX11_readItems_113 : decode cX11_readItems 113 = .ok (.iinc 4 1, 3) := by decide +kernel
theorem dX11_readItems_116 : decode cX11_readItems 116 = .ok (.goto (-24), 3) := by decide +kernel
theorem dX11_readItems_119 : decode cX11_readItems 119 = .ok (.goto 98, 3) := by decide +kernel
theorem dX11_readItems_122 : decode cX11_readItems 122 = .ok (.aload_n 0, 1) := by decide +kernel
theorem dX11_readItems_123 : decode cX11_readItems 123 = .ok (.getfield 201, 3) := by decide +kernel
theorem dX11_readItems_126 : decode cX11_readItems 126 = .ok (.ifCond .ne 91, 3) := by decide +kernel
theorem dX11_readItems_129 : decode cX11_readItems 129 = .ok (.aload_n 0, 1) := by decide +kernel
theorem dX11_readItems_130 : decode cX11_readItems 130 = .ok (.invokevirtual 213, 3) := by decide +kernel
theorem dX11_readItems_133 : decode cX11_readItems 133 = .ok (.istore 4, 2) := by decide +kernel
theorem dX11_readItems_135 : decode cX11_readItems 135 = .ok (.iload_n 1, 1) := by decide +kernel
theorem dX11_readItems_136 : decode cX11_readItems 136 = .ok (.ifCond .eq 34, 3) := by decide +kernel
theorem dX11_readItems_139 : decode cX11_readItems 139 = .ok (.aload_n 0, 1) := by decide +kernel
theorem dX11_readItems_140 : decode cX11_readItems 140 = .ok (.aload_n 0, 1) := by decide +kernel
theorem dX11_readItems_141 : decode cX11_readItems 141 = .ok (.getfield 201, 3) := by decide +kernel
theorem dX11_readItems_144 : decode cX11_readItems 144 = .ok (.ifCond .ne 17, 3) := by decide +kernel
theorem dX11_readItems_147 : decode cX11_readItems 147 = .ok (.iload 4, 2) := by decide +kernel
theorem dX11_readItems_149 : decode cX11_readItems 149 = .ok (.ifCond .le 16, 3) := by decide +kernel
theorem dX11_readItems_152 : decode cX11_readItems 152 = .ok (.iload 4, 2) := by decide +kernel
theorem dX11_readItems_154 : decode cX11_readItems 154 = .ok (.aload_n 0, 1) := by decide +kernel
theorem dX11_readItems_155 : decode cX11_readItems 155 = .ok (.getfield 216, 3) := by decide +kernel
theorem dX11_readItems_158 : decode cX11_readItems 158 = .ok (.if_icmp .gt 7, 3) := by decide +kernel
theorem dX11_readItems_161 : decode cX11_readItems 161 = .ok (.iconst 1, 1) := by decide +kernel
theorem dX11_readItems_162 : decode cX11_readItems 162 = .ok (.goto 4, 3) := by decide +kernel
theorem dX11_readItems_165 : decode cX11_readItems 165 = .ok (.iconst 0, 1) := by decide +kernel
theorem dX11_readItems_166 : decode cX11_readItems 166 = .ok (.iconst 4, 1) := by decide +kernel
theorem dX11_readItems_167 : decode cX11_readItems 167 = .ok (.invokevirtual 222, 3) := by decide +kernel
theorem dX11_readItems_170 : decode cX11_readItems 170 = .ok (.iconst 0, 1) := by decide +kernel
theorem dX11_readItems_171 : decode cX11_readItems 171 = .ok (.istore 5, 2) := by decide +kernel
theorem dX11_readItems_173 : decode cX11_readItems 173 = .ok (.iload 5, 2) := by decide +kernel
theorem dX11_readItems_175 : decode cX11_readItems 175 = .ok (.iload_n 3, 1) := by decide +kernel
theorem dX11_readItems_176 : decode cX11_readItems 176 = .ok (.if_icmp .ge 41, 3) := by decide +kernel
theorem dX11_readItems_179 : decode cX11_readItems 179 = .ok (.aload_n 0, 1) := by decide +kernel
theorem dX11_readItems_180 : decode cX11_readItems 180 = .ok (.getfield 201, 3) := by decide +kernel
theorem dX11_readItems_183 : decode cX11_readItems 183 = .ok (.ifCond .ne 34, 3) := by decide +kernel
theorem dX11_readItems_186 : decode cX11_readItems 186 = .ok (.aload_n 0, 1) := by decide +kernel
theorem dX11_readItems_187 : decode cX11_readItems 187 = .ok (.iload_n 1, 1) := by decide +kernel
theorem dX11_readItems_188 : decode cX11_readItems 188 = .ok (.ifCond .eq 18, 3) := by decide +kernel
theorem dX11_readItems_191 : decode cX11_readItems 191 = .ok (.aload_n 0, 1) := by decide +kernel
theorem dX11_readItems_192 : decode cX11_readItems 192 = .ok (.getfield 25, 3) := by decide +kernel
theorem dX11_readItems_195 : decode cX11_readItems 195 = .ok (.aload_n 0, 1) := by decide +kernel
theorem dX11_readItems_196 : decode cX11_readItems 196 = .ok (.getfield 216, 3) := by decide +kernel
theorem dX11_readItems_199 : decode cX11_readItems 199 = .ok (.iload 4, 2) := by decide +kernel
theorem dX11_readItems_201 : decode cX11_readItems 201 = .ok (.isub, 1) := by decide +kernel
theorem dX11_readItems_202 : decode cX11_readItems 202 = .ok (.iaload, 1) := by decide +kernel
theorem dX11_readItems_203 : decode cX11_readItems 203 = .ok (.goto 5, 3) := by decide +kernel
theorem dX11_readItems_206 : decode cX11_readItems 206 = .ok (.iload 4, 2) := by decide +kernel
theorem dX11_readItems_208 : decode cX11_readItems 208 = .ok (.invokevirtual 229, 3) := by decide +kernel
theorem dX11_readItems_211 : decode cX11_readItems 211 = .ok (.iinc 5 1, 3) := by decide +kernel
theorem dX11_readItems_214 : decode cX11_readItems 214 = .ok (.goto (-41), 3) := by decide +kernel
theorem dX11_readItems_217 : decode cX11_readItems 217 = .ok (.goto (-217), 3) := by decide +kernel
theorem dX11_readItems_220 : decode cX11_readItems 220 = .ok (.return_, 1) := by decide +kernel
theorem dX11_readBits_0 : decode cX11_readBits 0 = .ok (.aload_n 0, 1) := by decide +kernel
theorem dX11_readBits_1 : decode cX11_readBits 1 = .ok (.invokevirtual 213, 3) := by decide +kernel
theorem dX11_readBits_4 : decode cX11_readBits 4 = .ok (.iconst 1, 1) := by decide +kernel
theorem dX11_readBits_5 : decode cX11_readBits 5 = .ok (.iadd, 1) := by decide +kernel
theorem dX11_readBits_6 : decode cX11_readBits 6 = .ok (.istore_n 1, 1) := by decide +kernel
theorem dX11_readBits_7 : decode cX11_readBits 7 = .ok (.iconst (-1), 1) := by decide +kernel
theorem dX11_readBits_8 : decode cX11_readBits 8 = .ok (.istore_n 2, 1) := by decide +kernel
theorem dX11_readBits_9 : decode cX11_readBits 9 = .ok (.iconst 0, 1) := by decide +kernel
theorem dX11_readBits_10 : decode cX11_readBits 10 = .ok (.istore_n 3, 1) := by decide +kernel
theorem dX11_readBits_11 : decode cX11_readBits 11 = .ok (.iload_n 3, 1) := by decide +kernel
theorem dX11_readBits_12 : decode cX11_readBits 12 = .ok (.iload_n 1, 1) := by decide +kernel
theorem dX11_readBits_13 : decode cX11_readBits 13 = .ok (.if_icmp .ge 60, 3) := by decide +kernel
theorem dX11_readBits_16 : decode cX11_readBits 16 = .ok (.aload_n 0, 1) := by decide +kernel
theorem dX11_readBits_17 : decode cX11_readBits 17 = .ok (.getfield 201, 3) := by decide +kernel
theorem dX11_readBits_20 : decode cX11_readBits 20 = .ok (.ifCond .ne 53, 3) := by decide +kernel
theorem dX11_readBits_23 : decode cX11_readBits 23 = .ok (.aload_n 0, 1) := by decide +kernel
theorem dX11_readBits_24 : decode cX11_readBits 24 = .ok (.getfield 49, 3) := by decide +kernel
theorem dX11_readBits_27 : decode cX11_readBits 27 = .ok (.iload_n 3, 1) := by decide +kernel
theorem dX11_readBits_28 : decode cX11_readBits 28 = .ok (.aload_n 0, 1) := by decide +kernel
theorem dX11_readBits_29 : decode cX11_readBits 29 = .ok (.invokevirtual 213, 3) := by decide +kernel
theorem dX11_readBits_32 : decode cX11_readBits 32 = .ok (.iastore, 1) := by decide +kernel
theorem dX11_readBits_33 : decode cX11_readBits 33 = .ok (.aload_n 0, 1) := by decide +kernel
theorem dX11_readBits_34 : decode cX11_readBits 34 = .ok (.aload_n 0, 1) := by decide +kernel
theorem dX11_readBits_35 : decode cX11_readBits 35 = .ok (.getfield 201, 3) := by decide +kernel
theorem dX11_readBits_38 : decode cX11_readBits 38 = .ok (.ifCond .ne 13, 3) := by decide +kernel
theorem dX11_readBits_41 : decode cX11_readBits 41 = .ok (.aload_n 0, 1) := by decide +kernel
theorem dX11_readBits_42 : decode cX11_readBits 42 = .ok (.getfield 49, 3) := by decide +kernel
theorem dX11_readBits_45 : decode cX11_readBits 45 = .ok (.iload_n 3, 1) := by decide +kernel
theorem dX11_readBits_46 : decode cX11_readBits 46 = .ok (.iaload, 1) := by decide +kernel
theorem dX11_readBits_47 : decode cX11_readBits 47 = .ok (.iload_n 2, 1) := by decide +kernel
theorem dX11_readBits_48 : decode cX11_readBits 48 = .ok (.if_icmp .le 7, 3) := by decide +kernel
theorem dX11_readBits_51 : decode cX11_readBits 51 = .ok (.iconst 1, 1) := by decide +kernel
theorem dX11_readBits_52 : decode cX11_readBits 52 = .ok (.goto 4, 3) := by decide +kernel
theorem dX11_readBits_55 : decode cX11_readBits 55 = .ok (.iconst 0, 1) := by decide +kernel
theorem dX11_readBits_56 : decode cX11_readBits 56 = .ok (.iconst 4, 1) := by decide +kernel
theorem dX11_readBits_57 : decode cX11_readBits 57 = .ok (.invokevirtual 222, 3) := by decide +kernel
theorem dX11_readBits_60 : decode cX11_readBits 60 = .ok (.aload_n 0, 1) := by decide +kernel
theorem dX11_readBits_61 : decode cX11_readBits 61 = .ok (.getfield 49, 3) := by decide +kernel
theorem dX11_readBits_64 : decode cX11_readBits 64 = .ok (.iload_n 3, 1) := by decide +kernel
theorem dX11_readBits_65 : decode cX11_readBits 65 = .ok (.iaload, 1) := by decide +kernel
theorem dX11_readBits_66 : decode cX11_readBits 66 = .ok (.istore_n 2, 1) := by decide +kernel
theorem dX11_readBits_67 : decode cX11_readBits 67 = .ok (.iinc 3 1, 3) := by decide +kernel
theorem dX11_readBits_70 : decode cX11_readBits 70 = .ok (.goto (-59), 3) := by decide +kernel
theorem dX11_readBits_73 : decode cX11_readBits 73 = .ok (.iload_n 1, 1) := by decide +kernel
theorem dX11_readBits_74 : decode cX11_readBits 74 = .ok (.invokestatic 146, 3) := by decide +kernel
theorem dX11_readBits_77 : decode cX11_readBits 77 = .ok (.istore_n 3, 1) := by decide +kernel
theorem dX11_readBits_78 : decode cX11_readBits 78 = .ok (.aload_n 0, 1) := by decide +kernel
theorem dX11_readBits_79 : decode cX11_readBits 79 = .ok (.bipush 8, 2) := by decide +kernel
theorem dX11_readBits_81 : decode cX11_readBits 81 = .ok (.putfield 210, 3) := by decide +kernel
theorem dX11_readBits_84 : decode cX11_readBits 84 = .ok (.aload_n 0, 1) := by decide +kernel
theorem dX11_readBits_85 : decode cX11_readBits 85 = .ok (.getfield 201, 3) := by decide +kernel
theorem dX11_readBits_88 : decode cX11_readBits 88 = .ok (.ifCond .ne 94, 3) := by decide +kernel
theorem dX11_readBits_91 : decode cX11_readBits 91 = .ok (.aload_n 0, 1) := by decide +kernel
theorem dX11_readBits_92 : decode cX11_readBits 92 = .ok (.getfield 216, 3) := by decide +kernel
theorem dX11_readBits_95 : decode cX11_readBits 95 = .ok (.aload_n 0, 1) := by decide +kernel
theorem dX11_readBits_96 : decode cX11_readBits 96 = .ok (.getfield 226, 3) := by decide +kernel
theorem dX11_readBits_99 : decode cX11_readBits 99 = .ok (.if_icmp .ge 83, 3) := by decide +kernel
theorem dX11_readBits_102 : decode cX11_readBits 102 = .ok (.iconst 0, 1) := by decide +kernel
theorem dX11_readBits_103 : decode cX11_readBits 103 = .ok (.istore 4, 2) := by decide +kernel
theorem dX11_readBits_105 : decode cX11_readBits 105 = .ok (.iconst 0, 1) := by decide +kernel
theorem dX11_readBits_106 : decode cX11_readBits 106 = .ok (.istore 5, 2) := by decide +kernel
theorem dX11_readBits_108 : decode cX11_readBits 108 = .ok (.iload 5, 2) := by decide +kernel
theorem dX11_readBits_110 : decode cX11_readBits 110 = .ok (.iload_n 3, 1) := by decide +kernel
theorem dX11_readBits_111 : decode cX11_readBits 111 = .ok (.if_icmp .ge 27, 3) := by decide +kernel
theorem dX11_readBits_114 : decode cX11_readBits 114 = .ok (.aload_n 0, 1) := by decide +kernel
theorem dX11_readBits_115 : decode cX11_readBits 115 = .ok (.getfield 201, 3) := by decide +kernel
theorem dX11_readBits_118 : decode cX11_readBits 118 = .ok (.ifCond .ne 20, 3) := by decide +kernel
theorem dX11_readBits_121 : decode cX11_readBits 121 = .ok (.iconst 2, 1) := by decide +kernel
theorem dX11_readBits_122 : decode cX11_readBits 122 = .ok (.iload 4, 2) := by decide +kernel
theorem dX11_readBits_124 : decode cX11_readBits 124 = .ok (.imul, 1) := by decide +kernel
theorem dX11_readBits_125 : decode cX11_readBits 125 = .ok (.aload_n 0, 1) := by decide +kernel
theorem dX11_readBits_126 : decode cX11_readBits 126 = .ok (.invokevirtual 219, 3) := by decide +kernel
theorem dX11_readBits_129 : decode cX11_readBits 129 = .ok (.iadd, 1) := by decide +kernel
theorem dX11_readBits_130 : decode cX11_readBits 130 = .ok (.istore 4, 2) := by decide +kernel
theorem dX11_readBits_132 : decode cX11_readBits 132 = .ok (.iinc 5 1, 3) := by decide +kernel
theorem dX11_readBits_135 : decode cX11_readBits 135 = .ok (.goto (-27), 3) := by decide +kernel
theorem dX11_readBits_138 : decode cX11_readBits 138 = .ok (.aload_n 0, 1) := by decide +kernel
theorem dX11_readBits_139 : decode cX11_readBits 139 = .ok (.aload_n 0, 1) := by decide +kernel
theorem dX11_readBits_140 : decode cX11_readBits 140 = .ok (.getfield 201, 3) := by decide +kernel
theorem dX11_readBits_143 : decode cX11_readBits 143 = .ok (.ifCond .ne 9, 3) := by decide +kernel
theorem dX11_readBits_146 : decode cX11_readBits 146 = .ok (.iload 4, 2) := by decide +kernel
theorem dX11_readBits_148 : decode cX11_readBits 148 = .ok (.iload_n 1, 1) := by decide +kernel
theorem dX11_readBits_149 : decode cX11_readBits 149 = .ok (.if_icmp .ge 7, 3) := by decide +kernel
theorem dX11_readBits_152 : decode cX11_readBits 152 = .ok (.iconst 1, 1) := by decide +kernel
theorem dX11_readBits_153 : decode cX11_readBits 153 = .ok (.goto 4, 3) := by decide +kernel
theorem dX11_readBits_156 : decode cX11_readBits 156 = .ok (.iconst 0, 1) := by decide +kernel
theorem dX11_readBits_157 : decode cX11_readBits 157 = .ok (.iconst 4, 1) := by decide +kernel
theorem dX11_readBits_158 : decode cX11_readBits 158 = .ok (.invokevirtual 222, 3) := by decide +kernel
theorem dX11_readBits_161 : decode cX11_readBits 161 = .ok (.aload_n 0, 1) := by decide +kernel
theorem dX11_readBits_162 : decode cX11_readBits 162 = .ok (.getfield 201, 3) := by decide +kernel
theorem dX11_readBits_165 : decode cX11_readBits 165 = .ok (.ifCond .ne 14, 3) := by decide +kernel
theorem dX11_readBits_168 : decode cX11_readBits 168 = .ok (.aload_n 0, 1) := by decide +kernel
theorem dX11_readBits_169 : decode cX11_readBits 169 = .ok (.aload_n 0, 1) := by decide +kernel
theorem dX11_readBits_170 : decode cX11_readBits 170 = .ok (.getfield 49, 3) := by decide +kernel
theorem dX11_readBits_173 : decode cX11_readBits 173 = .ok (.iload 4, 2) := by decide +kernel
theorem dX11_readBits_175 : decode cX11_readBits 175 = .ok (.iaload, 1) := by decide +kernel
theorem dX11_readBits_176 : decode cX11_readBits 176 = .ok (.invokevirtual 229, 3) := by decide +kernel
theorem dX11_readBits_179 : decode cX11_readBits 179 = .ok (.goto (-95), 3) := by decide +kernel
theorem dX11_readBits_182 : decode cX11_readBits 182 = .ok (.aload_n 0, 1) := by decide +kernel
theorem dX11_readBits_183 : decode cX11_readBits 183 = .ok (.invokevirtual 232, 3) := by decide +kernel
theorem dX11_readBits_186 : decode cX11_readBits 186 = .ok (.return_, 1) := by decide +kernel
theorem dX11_readPrefix_0 : decode cX11_readPrefix 0 = .ok (.aload_n 0, 1) := by decide +kernel
theorem dX11_readPrefix_1 : decode cX11_readPrefix 1 = .ok (.invokevirtual 213, 3) := by decide +kernel
theorem dX11_readPrefix_4 : decode cX11_readPrefix 4 = .ok (.iconst 1, 1) := by decide +kernel
theorem dX11_readPrefix_5 : decode cX11_readPrefix 5 = .ok (.iadd, 1) := by decide +kernel
theorem dX11_readPrefix_6 : decode cX11_readPrefix 6 = .ok (.istore_n 1, 1) := by decide +kernel
theorem dX11_readPrefix_7 : decode cX11_readPrefix 7 = .ok (.iconst (-1), 1) := by decide +kernel
theorem dX11_readPrefix_8 : decode cX11_readPrefix 8 = .ok (.istore_n 2, 1) := by decide +kernel
theorem dX11_readPrefix_9 : decode cX11_readPrefix 9 = .ok (.iconst 0, 1) := by decide +kernel
theorem dX11_readPrefix_10 : decode cX11_readPrefix 10 = .ok (.istore_n 3, 1) := by decide +kernel
theorem dX11_readPrefix_11 : decode cX11_readPrefix 11 = .ok (.iconst 0, 1) := by decide +kernel
theorem dX11_readPrefix_12 : decode cX11_readPrefix 12 = .ok (.istore 4, 2) := by decide +kernel
theorem dX11_readPrefix_14 : decode cX11_readPrefix 14 = .ok (.iload 4, 2) := by decide +kernel
theorem dX11_readPrefix_16 : decode cX11_readPrefix 16 = .ok (.sipush 256, 3) := by decide +kernel
theorem dX11_readPrefix_19 : decode cX11_readPrefix 19 = .ok (.if_icmp .ge 17, 3) := by decide +kernel
theorem dX11_readPrefix_22 : decode cX11_readPrefix 22 = .ok (.aload_n 0, 1) := by decide +kernel
theorem dX11_readPrefix_23 : decode cX11_readPrefix 23 = .ok (.getfield 37, 3) := by decide +kernel
theorem dX11_readPrefix_26 : decode cX11_readPrefix 26 = .ok (.iload 4, 2) := by decide +kernel
theorem dX11_readPrefix_28 : decode cX11_readPrefix 28 = .ok (.iconst 0, 1) := by decide +kernel
theorem dX11_readPrefix_29 : decode cX11_readPrefix 29 = .ok (.iastore, 1) := by decide +kernel
theorem dX11_readPrefix_30 : decode cX11_readPrefix 30 = .ok (.iinc 4 1, 3) := by decide +kernel
theorem dX11_readPrefix_33 : decode cX11_readPrefix 33 = .ok (.goto (-19), 3) := by decide +kernel
theorem dX11_readPrefix_36 : decode cX11_readPrefix 36 = .ok (.iconst 0, 1) := by decide +kernel
theorem dX11_readPrefix_37 : decode cX11_readPrefix 37 = .ok (.istore 4, 2) := by decide +kernel
theorem dX11_readPrefix_39 : decode cX11_readPrefix 39 = .ok (.iload 4, 2) := by decide +kernel
theorem dX11_readPrefix_41 : decode cX11_readPrefix 41 = .ok (.iload_n 1, 1) := by decide +kernel
theorem dX11_readPrefix_42 : decode cX11_readPrefix 42 = .ok (.if_icmp .ge 157, 3) := by decide +kernel
theorem dX11_readPrefix_45 : decode cX11_readPrefix 45 = .ok (.aload_n 0, 1) := by decide +kernel
theorem dX11_readPrefix_46 : decode cX11_readPrefix 46 = .ok (.getfield 201, 3) := by decide +kernel
theorem dX11_readPrefix_49 : decode cX11_readPrefix 49 = .ok (.ifCond .ne 150, 3) := by decide +kernel
theorem dX11_readPrefix_52 : decode cX11_readPrefix 52 = .ok (.aload_n 0, 1) := by decide +kernel
theorem dX11_readPrefix_53 : decode cX11_readPrefix 53 = .ok (.invokevirtual 213, 3) := by decide +kernel
theorem dX11_readPrefix_56 : decode cX11_readPrefix 56 = .ok (.istore 5, 2) := by decide +kernel
theorem dX11_readPrefix_58 : decode cX11_readPrefix 58 = .ok (.aload_n 0, 1) := by decide +kernel
theorem dX11_readPrefix_59 : decode cX11_readPrefix 59 = .ok (.aload_n 0, 1) := by decide +kernel
theorem dX11_readPrefix_60 : decode cX11_readPrefix 60 = .ok (.getfield 201, 3) := by decide +kernel
theorem dX11_readPrefix_63 : decode cX11_readPrefix 63 = .ok (.ifCond .ne 9, 3) := by decide +kernel
theorem dX11_readPrefix_66 : decode cX11_readPrefix 66 = .ok (.iload 5, 2) := by decide +kernel
theorem dX11_readPrefix_68 : decode cX11_readPrefix 68 = .ok (.iload_n 2, 1) := by decide +kernel
theorem dX11_readPrefix_69 : decode cX11_readPrefix 69 = .ok (.if_icmp .le 7, 3) := by decide +kernel
theorem dX11_readPrefix_72 : decode cX11_readPrefix 72 = .ok (.iconst 1, 1) := by decide +kernel
theorem dX11_readPrefix_73 : decode cX11_readPrefix 73 = .ok (.goto 4, 3) := by decide +kernel
theorem dX11_readPrefix_76 : decode cX11_readPrefix 76 = .ok (.iconst 0, 1) := by decide +kernel
theorem dX11_readPrefix_77 : decode cX11_readPrefix 77 = .ok (.iconst 4, 1) := by decide +kernel
theorem dX11_readPrefix_78 : decode cX11_readPrefix 78 = .ok (.invokevirtual 222, 3) := by decide +kernel
theorem dX11_readPrefix_81 : decode cX11_readPrefix 81 = .ok (.iload 5, 2) := by decide +kernel
theorem dX11_readPrefix_83 : decode cX11_readPrefix 83 = .ok (.istore_n 2, 1) := by decide +kernel
theorem dX11_readPrefix_84 : decode cX11_readPrefix 84 = .ok (.aload_n 0, 1) := by decide +kernel
theorem dX11_readPrefix_85 : decode cX11_readPrefix 85 = .ok (.getfield 201, 3) := by decide +kernel
theorem dX11_readPrefix_88 : decode cX11_readPrefix 88 = .ok (.ifCond .ne 10, 3) := by decide +kernel
theorem dX11_readPrefix_91 : decode cX11_readPrefix 91 = .ok (.aload_n 0, 1) := by decide +kernel
theorem dX11_readPrefix_92 : decode cX11_readPrefix 92 = .ok (.invokevirtual 213, 3) := by decide +kernel
theorem dX11_readPrefix_95 : decode cX11_readPrefix 95 = .ok (.goto 4, 3) := by decide +kernel
theorem dX11_readPrefix_98 : decode cX11_readPrefix 98 = .ok (.iconst 1, 1) := by decide +kernel
theorem dX11_readPrefix_99 : decode cX11_readPrefix 99 = .ok (.istore 6, 2) := by decide +kernel
theorem dX11_readPrefix_101 : decode cX11_readPrefix 101 = .ok (.aload_n 0, 1) := by decide +kernel
theorem dX11_readPrefix_102 : decode cX11_readPrefix 102 = .ok (.aload_n 0, 1) := by decide +kernel
theorem dX11_readPrefix_103 : decode cX11_readPrefix 103 = .ok (.getfield 201, 3) := by decide +kernel
theorem dX11_readPrefix_106 : decode cX11_readPrefix 106 = .ok (.ifCond .ne 14, 3) := by decide +kernel
theorem dX11_readPrefix_109 : decode cX11_readPrefix 109 = .ok (.iload 6, 2) := by decide +kernel
theorem dX11_readPrefix_111 : decode cX11_readPrefix 111 = .ok (.iconst 1, 1) := by decide +kernel
theorem dX11_readPrefix_112 : decode cX11_readPrefix 112 = .ok (.bipush 15, 2) := by decide +kernel
theorem dX11_readPrefix_114 : decode cX11_readPrefix 114 = .ok (.invokestatic 75, 3) := by decide +kernel
theorem dX11_readPrefix_117 : decode cX11_readPrefix 117 = .ok (.ifCond .eq 7, 3) := by decide +kernel
theorem dX11_readPrefix_120 : decode cX11_readPrefix 120 = .ok (.iconst 1, 1) := by decide +kernel
theorem dX11_readPrefix_121 : decode cX11_readPrefix 121 = .ok (.goto 4, 3) := by decide +kernel
theorem dX11_readPrefix_124 : decode cX11_readPrefix 124 = .ok (.iconst 0, 1) := by decide +kernel
theorem dX11_readPrefix_125 : decode cX11_readPrefix 125 = .ok (.iconst 4, 1) := by decide +kernel
theorem dX11_readPrefix_126 : decode cX11_readPrefix 126 = .ok (.invokevirtual 222, 3) := by decide +kernel
theorem dX11_readPrefix_129 : decode cX11_readPrefix 129 = .ok (.aload_n 0, 1) := by decide +kernel
theorem dX11_readPrefix_130 : decode cX11_readPrefix 130 = .ok (.getfield 201, 3) := by decide +kernel
theorem dX11_readPrefix_133 : decode cX11_readPrefix 133 = .ok (.ifCond .ne 60, 3) := by decide +kernel
theorem dX11_readPrefix_136 : decode cX11_readPrefix 136 = .ok (.aload_n 0, 1) := by decide +kernel
theorem dX11_readPrefix_137 : decode cX11_readPrefix 137 = .ok (.getfield 37, 3) := by decide +kernel
theorem dX11_readPrefix_140 : decode cX11_readPrefix 140 = .ok (.iload 5, 2) := by decide +kernel
theorem dX11_readPrefix_142 : decode cX11_readPrefix 142 = .ok (.iload 6, 2) := by decide +kernel
theorem dX11_readPrefix_144 : decode cX11_readPrefix 144 = .ok (.iastore, 1) := by decide +kernel
theorem dX11_readPrefix_145 : decode cX11_readPrefix 145 = .ok (.iload_n 3, 1) := by decide +kernel
theorem dX11_readPrefix_146 : decode cX11_readPrefix 146 = .ok (.iconst 1, 1) := by decide +kernel
theorem dX11_readPrefix_147 : decode cX11_readPrefix 147 = .ok (.bipush 15, 2) := by decide +kernel
theorem dX11_readPrefix_149 : decode cX11_readPrefix 149 = .ok (.iload 6, 2) := by decide +kernel
theorem dX11_readPrefix_151 : decode cX11_readPrefix 151 = .ok (.isub, 1) := by decide +kernel
theorem dX11_readPrefix_152 : decode cX11_readPrefix 152 = .ok (.ishl, 1) := by decide +kernel
theorem dX11_readPrefix_153 : decode cX11_readPrefix 153 = .ok (.iadd, 1) := by decide +kernel
theorem dX11_readPrefix_154 : decode cX11_readPrefix 154 = .ok (.istore_n 3, 1) := by decide +kernel
theorem dX11_readPrefix_155 : decode cX11_readPrefix 155 = .ok (.aload_n 0, 1) := by decide +kernel
theorem dX11_readPrefix_156 : decode cX11_readPrefix 156 = .ok (.iload 4, 2) := by decide +kernel
theorem dX11_readPrefix_158 : decode cX11_readPrefix 158 = .ok (.iload_n 1, 1) := by decide +kernel
theorem dX11_readPrefix_159 : decode cX11_readPrefix 159 = .ok (.iconst 1, 1) := by decide +kernel
theorem dX11_readPrefix_160 : decode cX11_readPrefix 160 = .ok (.isub, 1) := by decide +kernel
theorem dX11_readPrefix_161 : decode cX11_readPrefix 161 = .ok (.if_icmp .lt 23, 3) := by decide +kernel
theorem dX11_readPrefix_164 : decode cX11_readPrefix 164 = .ok (.iload_n 1, 1) := by decide +kernel
theorem dX11_readPrefix_165 : decode cX11_readPrefix 165 = .ok (.iconst 1, 1) := by decide +kernel
theorem dX11_readPrefix_166 : decode cX11_readPrefix 166 = .ok (.if_icmp .ne 12, 3) := by decide +kernel
theorem dX11_readPrefix_169 : decode cX11_readPrefix 169 = .ok (.iload 6, 2) := by decide +kernel
theorem dX11_readPrefix_171 : decode cX11_readPrefix 171 = .ok (.iconst 1, 1) := by decide +kernel
theorem dX11_readPrefix_172 : decode cX11_readPrefix 172 = .ok (.if_icmp .ne 16, 3) := by decide +kernel
theorem dX11_readPrefix_175 : decode cX11_readPrefix 175 = .ok (.goto 9, 3) := by decide +kernel
theorem dX11_readPrefix_178 : decode cX11_readPrefix 178 = .ok (.iload_n 3, 1) := by decide +kernel
theorem dX11_readPrefix_179 : decode cX11_readPrefix 179 = .ok (.ldc 235, 2) := by decide +kernel
theorem dX11_readPrefix_181 : decode cX11_readPrefix 181 = .ok (.if_icmp .ne 7, 3) := by decide +kernel
theorem dX11_readPrefix_184 : decode cX11_readPrefix 184 = .ok (.iconst 1, 1) := by decide +kernel
theorem dX11_readPrefix_185 : decode cX11_readPrefix 185 = .ok (.goto 4, 3) := by decide +kernel
theorem dX11_readPrefix_188 : decode cX11_readPrefix 188 = .ok (.iconst 0, 1) := by decide +kernel
theorem dX11_readPrefix_189 : decode cX11_readPrefix 189 = .ok (.iconst 4, 1) := by decide +kernel
theorem dX11_readPrefix_190 : decode cX11_readPrefix 190 = .ok (.invokevirtual 222, 3) := by decide +kernel
theorem dX11_readPrefix_193 : decode cX11_readPrefix 193 = .ok (.iinc 4 1, 3) := by decide +kernel
theorem dX11_readPrefix_196 : decode cX11_readPrefix 196 = .ok (.goto (-157), 3) := by decide +kernel
theorem dX11_readPrefix_199 : decode cX11_readPrefix 199 = .ok (.aload_n 0, 1) := by decide +kernel
theorem dX11_readPrefix_200 : decode cX11_readPrefix 200 = .ok (.getfield 201, 3) := by decide +kernel
theorem dX11_readPrefix_203 : decode cX11_readPrefix 203 = .ok (.ifCond .eq 4, 3) := by decide +kernel
theorem dX11_readPrefix_206 : decode cX11_readPrefix 206 = .ok (.return_, 1) := by decide +kernel
theorem dX11_readPrefix_207 : decode cX11_readPrefix 207 = .ok (.aload_n 0, 1) := by decide +kernel
theorem dX11_readPrefix_208 : decode cX11_readPrefix 208 = .ok (.invokevirtual 158, 3) := by decide +kernel
theorem dX11_readPrefix_211 : decode cX11_readPrefix 211 = .ok (.aload_n 0, 1) := by decide +kernel
theorem dX11_readPrefix_212 : decode cX11_readPrefix 212 = .ok (.bipush 8, 2) := by decide +kernel
theorem dX11_readPrefix_214 : decode cX11_readPrefix 214 = .ok (.putfield 210, 3) := by decide +kernel
theorem dX11_readPrefix_217 : decode cX11_readPrefix 217 = .ok (.aload_n 0, 1) := by decide +kernel
theorem dX11_readPrefix_218 : decode cX11_readPrefix 218 = .ok (.getfield 201, 3) := by decide +kernel
theorem dX11_readPrefix_221 : decode cX11_readPrefix 221 = .ok (.ifCond .ne 23, 3) := by decide +kernel
theorem dX11_readPrefix_224 : decode cX11_readPrefix 224 = .ok (.aload_n 0, 1) := by decide +kernel
theorem dX11_readPrefix_225 : decode cX11_readPrefix 225 = .ok (.getfield 216, 3) := by decide +kernel
theorem dX11_readPrefix_228 : decode cX11_readPrefix 228 = .ok (.aload_n 0, 1) := by decide +kernel
theorem dX11_readPrefix_229 : decode cX11_readPrefix 229 = .ok (.getfield 226, 3) := by decide +kernel
theorem dX11_readPrefix_232 : decode cX11_readPrefix 232 = .ok (.if_icmp .ge 12, 3) := by decide +kernel
theorem dX11_readPrefix_235 : decode cX11_readPrefix 235 = .ok (.aload_n 0, 1) := by decide +kernel
theorem dX11_readPrefix_236 : decode cX11_readPrefix 236 = .ok (.iload_n 1, 1) := by decide +kernel
theorem dX11_readPrefix_237 : decode cX11_readPrefix 237 = .ok (.iload_n 2, 1) := by decide +kernel
theorem dX11_readPrefix_238 : decode cX11_readPrefix 238 = .ok (.invokevirtual 236, 3) := by decide +kernel
theorem dX11_readPrefix_241 : decode cX11_readPrefix 241 = .ok (.goto (-24), 3) := by decide +kernel
theorem dX11_readPrefix_244 : decode cX11_readPrefix 244 = .ok (.aload_n 0, 1) := by decide +kernel
theorem dX11_readPrefix_245 : decode cX11_readPrefix 245 = .ok (.invokevirtual 232, 3) := by decide +kernel
theorem dX11_readPrefix_248 : decode cX11_readPrefix 248 = .ok (.return_, 1) := by decide +kernel
theorem dX11_readCode_0 : decode cX11_readCode 0 = .ok (.iconst 0, 1) := by decide +kernel
theorem dX11_readCode_1 : decode cX11_readCode 1 = .ok (.istore_n 3, 1) := by decide +kernel
theorem dX11_readCode_2 : decode cX11_readCode 2 = .ok (.iconst 1, 1) := by decide +kernel
theorem dX11_readCode_3 : decode cX11_readCode 3 = .ok (.istore 4, 2) := by decide +kernel
theorem dX11_readCode_5 : decode cX11_readCode 5 = .ok (.iload 4, 2) := by decide +kernel
theorem dX11_readCode_7 : decode cX11_readCode 7 = .ok (.bipush 16, 2) := by decide +kernel
theorem dX11_readCode_9 : decode cX11_readCode 9 = .ok (.if_icmp .ge 111, 3) := by decide +kernel
theorem dX11_readCode_12 : decode cX11_readCode 12 = .ok (.aload_n 0, 1) := by decide +kernel
theorem dX11_readCode_13 : decode cX11_readCode 13 = .ok (.getfield 201, 3) := by decide +kernel
theorem dX11_readCode_16 : decode cX11_readCode 16 = .ok (.ifCond .ne 104, 3) := by decide +kernel
theorem dX11_readCode_19 : decode cX11_readCode 19 = .ok (.iconst 2, 1) := by decide +kernel
theorem dX11_readCode_20 : decode cX11_readCode 20 = .ok (.iload_n 3, 1) := by decide +kernel
theorem dX11_readCode_21 : decode cX11_readCode 21 = .ok (.imul, 1) := by decide +kernel
theorem dX11_readCode_22 : decode cX11_readCode 22 = .ok (.aload_n 0, 1) := by decide +kernel
theorem dX11_readCode_23 : decode cX11_readCode 23 = .ok (.invokevirtual 219, 3) := by decide +kernel
theorem dX11_readCode_26 : decode cX11_readCode 26 = .ok (.iadd, 1) := by decide +kernel
theorem dX11_readCode_27 : decode cX11_readCode 27 = .ok (.istore_n 3, 1) := by decide +kernel
theorem dX11_readCode_28 : decode cX11_readCode 28 = .ok (.iload_n 1, 1) := by decide +kernel
theorem dX11_readCode_29 : decode cX11_readCode 29 = .ok (.iconst 1, 1) := by decide +kernel
theorem dX11_readCode_30 : decode cX11_readCode 30 = .ok (.if_icmp .ne 30, 3) := by decide +kernel
theorem dX11_readCode_33 : decode cX11_readCode 33 = .ok (.aload_n 0, 1) := by decide +kernel
theorem dX11_readCode_34 : decode cX11_readCode 34 = .ok (.aload_n 0, 1) := by decide +kernel
theorem dX11_readCode_35 : decode cX11_readCode 35 = .ok (.getfield 201, 3) := by decide +kernel
theorem dX11_readCode_38 : decode cX11_readCode 38 = .ok (.ifCond .ne 7, 3) := by decide +kernel
theorem dX11_readCode_41 : decode cX11_readCode 41 = .ok (.iload_n 3, 1) := by decide +kernel
theorem dX11_readCode_42 : decode cX11_readCode 42 = .ok (.ifCond .ne 7, 3) := by decide +kernel
theorem dX11_readCode_45 : decode cX11_readCode 45 = .ok (.iconst 1, 1) := by decide +kernel
theorem dX11_readCode_46 : decode cX11_readCode 46 = .ok (.goto 4, 3) := by decide +kernel
theorem dX11_readCode_49 : decode cX11_readCode 49 = .ok (.iconst 0, 1) := by decide +kernel
theorem dX11_readCode_50 : decode cX11_readCode 50 = .ok (.iconst 4, 1) := by decide +kernel
theorem dX11_readCode_51 : decode cX11_readCode 51 = .ok (.invokevirtual 222, 3) := by decide +kernel
theorem dX11_readCode_54 : decode cX11_readCode 54 = .ok (.aload_n 0, 1) := by decide +kernel
theorem dX11_readCode_55 : decode cX11_readCode 55 = .ok (.iload_n 2, 1) := by decide +kernel
theorem dX11_readCode_56 : decode cX11_readCode 56 = .ok (.invokevirtual 229, 3) := by decide +kernel
theorem dX11_readCode_59 : decode cX11_readCode 59 = .ok (.return_, 1) := by decide +kernel
theorem dX11_readCode_60 : decode cX11_readCode 60 = .ok (.iconst 0, 1) := by decide +kernel
theorem dX11_readCode_61 : decode cX11_readCode 61 = .ok (.istore 5, 2) := by decide +kernel
theorem dX11_readCode_63 : decode cX11_readCode 63 = .ok (.iload 5, 2) := by decide +kernel
theorem dX11_readCode_65 : decode cX11_readCode 65 = .ok (.sipush 256, 3) := by decide +kernel
theorem dX11_readCode_68 : decode cX11_readCode 68 = .ok (.if_icmp .ge 46, 3) := by decide +kernel
theorem dX11_readCode_71 : decode cX11_readCode 71 = .ok (.aload_n 0, 1) := by decide +kernel
theorem dX11_readCode_72 : decode cX11_readCode 72 = .ok (.getfield 201, 3) := by decide +kernel
theorem dX11_readCode_75 : decode cX11_readCode 75 = .ok (.ifCond .ne 39, 3) := by decide +kernel
theorem dX11_readCode_78 : decode cX11_readCode 78 = .ok (.aload_n 0, 1) := by decide +kernel
theorem dX11_readCode_79 : decode cX11_readCode 79 = .ok (.getfield 37, 3) := by decide +kernel
theorem dX11_readCode_82 : decode cX11_readCode 82 = .ok (.iload 5, 2) := by decide +kernel
theorem dX11_readCode_84 : decode cX11_readCode 84 = .ok (.iaload, 1) := by decide +kernel
theorem dX11_readCode_85 : decode cX11_readCode 85 = .ok (.iload 4, 2) := by decide +kernel
theorem dX11_readCode_87 : decode cX11_readCode 87 = .ok (.if_icmp .ne 21, 3) := by decide +kernel
theorem dX11_readCode_90 : decode cX11_readCode 90 = .ok (.aload_n 0, 1) := by decide +kernel
theorem dX11_readCode_91 : decode cX11_readCode 91 = .ok (.getfield 40, 3) := by decide +kernel
theorem dX11_readCode_94 : decode cX11_readCode 94 = .ok (.iload 5, 2) := by decide +kernel
theorem dX11_readCode_96 : decode cX11_readCode 96 = .ok (.iaload, 1) := by decide +kernel
theorem dX11_readCode_97 : decode cX11_readCode 97 = .ok (.iload_n 3, 1) := by decide +kernel
theorem dX11_readCode_98 : decode cX11_readCode 98 = .ok (.if_icmp .ne 10, 3) := by decide +kernel
theorem dX11_readCode_101 : decode cX11_readCode 101 = .ok (.aload_n 0, 1) := by decide +kernel
theorem dX11_readCode_102 : decode cX11_readCode 102 = .ok (.iload 5, 2) := by decide +kernel
theorem dX11_readCode_104 : decode cX11_readCode 104 = .ok (.invokevirtual 229, 3) := by decide +kernel
theorem dX11_readCode_107 : decode cX11_readCode 107 = .ok (.return_, 1) := by decide +kernel
theorem dX11_readCode_108 : decode cX11_readCode 108 = .ok (.iinc 5 1, 3) := by decide +kernel
theorem dX11_readCode_111 : decode cX11_readCode 111 = .ok (.goto (-48), 3) := by decide +kernel
theorem dX11_readCode_114 : decode cX11_readCode 114 = .ok (.iinc 4 1, 3) := by decide +kernel
theorem dX11_readCode_117 : decode cX11_readCode 117 = .ok (.goto (-112), 3) := by decide +kernel
theorem dX11_readCode_120 : decode cX11_readCode 120 = .ok (.return_, 1) := by decide +kernel
theorem dX11_unpack_0 : decode cX11_unpack 0 = .ok (.aload_n 0, 1) := by decide +kernel
theorem dX11_unpack_1 : decode cX11_unpack 1 = .ok (.iconst 0, 1) := by decide +kernel
theorem dX11_unpack_2 : decode cX11_unpack 2 = .ok (.putfield 65, 3) := by decide +kernel
theorem dX11_unpack_5 : decode cX11_unpack 5 = .ok (.aload_n 0, 1) := by decide +kernel
theorem dX11_unpack_6 : decode cX11_unpack 6 = .ok (.iconst 0, 1) := by decide +kernel
theorem dX11_unpack_7 : decode cX11_unpack 7 = .ok (.putfield 201, 3) := by decide +kernel
theorem dX11_unpack_10 : decode cX11_unpack 10 = .ok (.aload_n 0, 1) := by decide +kernel
theorem dX11_unpack_11 : decode cX11_unpack 11 = .ok (.bipush (-3), 2) := by decide +kernel
theorem dX11_unpack_13 : decode cX11_unpack 13 = .ok (.putfield 58, 3) := by decide +kernel
theorem dX11_unpack_16 : decode cX11_unpack 16 = .ok (.aload_n 0, 1) := by decide +kernel
theorem dX11_unpack_17 : decode cX11_unpack 17 = .ok (.iconst 0, 1) := by decide +kernel
theorem dX11_unpack_18 : decode cX11_unpack 18 = .ok (.putfield 204, 3) := by decide +kernel
theorem dX11_unpack_21 : decode cX11_unpack 21 = .ok (.aload_n 0, 1) := by decide +kernel
theorem dX11_unpack_22 : decode cX11_unpack 22 = .ok (.iconst 0, 1) := by decide +kernel
theorem dX11_unpack_23 : decode cX11_unpack 23 = .ok (.putfield 216, 3) := by decide +kernel
theorem dX11_unpack_26 : decode cX11_unpack 26 = .ok (.aload_n 0, 1) := by decide +kernel
theorem dX11_unpack_27 : decode cX11_unpack 27 = .ok (.invokevirtual 213, 3) := by decide +kernel
theorem dX11_unpack_30 : decode cX11_unpack 30 = .ok (.istore_n 1, 1) := by decide +kernel
theorem dX11_unpack_31 : decode cX11_unpack 31 = .ok (.aload_n 0, 1) := by decide +kernel
theorem dX11_unpack_32 : decode cX11_unpack 32 = .ok (.aload_n 0, 1) := by decide +kernel
theorem dX11_unpack_33 : decode cX11_unpack 33 = .ok (.getfield 201, 3) := by decide +kernel
theorem dX11_unpack_36 : decode cX11_unpack 36 = .ok (.ifCond .ne 8, 3) := by decide +kernel
theorem dX11_unpack_39 : decode cX11_unpack 39 = .ok (.iload_n 1, 1) := by decide +kernel
theorem dX11_unpack_40 : decode cX11_unpack 40 = .ok (.iconst 3, 1) := by decide +kernel
theorem dX11_unpack_41 : decode cX11_unpack 41 = .ok (.if_icmp .ge 7, 3) := by decide +kernel
theorem dX11_unpack_44 : decode cX11_unpack 44 = .ok (.iconst 1, 1) := by decide +kernel
theorem dX11_unpack_45 : decode cX11_unpack 45 = .ok (.goto 4, 3) := by decide +kernel
theorem dX11_unpack_48 : decode cX11_unpack 48 = .ok (.iconst 0, 1) := by decide +kernel
theorem dX11_unpack_49 : decode cX11_unpack 49 = .ok (.iconst 1, 1) := by decide +kernel
theorem dX11_unpack_50 : decode cX11_unpack 50 = .ok (.invokevirtual 222, 3) := by decide +kernel
theorem dX11_unpack_53 : decode cX11_unpack 53 = .ok (.iconst 0, 1) := by decide +kernel
theorem dX11_unpack_54 : decode cX11_unpack 54 = .ok (.istore_n 2, 1) := by decide +kernel
theorem dX11_unpack_55 : decode cX11_unpack 55 = .ok (.iconst 0, 1) := by decide +kernel
theorem dX11_unpack_56 : decode cX11_unpack 56 = .ok (.istore_n 3, 1) := by decide +kernel
theorem dX11_unpack_57 : decode cX11_unpack 57 = .ok (.iconst 0, 1) := by decide +kernel
theorem dX11_unpack_58 : decode cX11_unpack 58 = .ok (.istore 4, 2) := by decide +kernel
theorem dX11_unpack_60 : decode cX11_unpack 60 = .ok (.iconst 0, 1) := by decide +kernel
theorem dX11_unpack_61 : decode cX11_unpack 61 = .ok (.istore 5, 2) := by decide +kernel
theorem dX11_unpack_63 : decode cX11_unpack 63 = .ok (.iconst 0, 1) := by decide +kernel
theorem dX11_unpack_64 : decode cX11_unpack 64 = .ok (.istore 6, 2) := by decide +kernel
theorem dX11_unpack_66 : decode cX11_unpack 66 = .ok (.iload 6, 2) := by decide +kernel
theorem dX11_unpack_68 : decode cX11_unpack 68 = .ok (.iload_n 1, 1) := by decide +kernel
theorem dX11_unpack_69 : decode cX11_unpack 69 = .ok (.if_icmp .ge 147, 3) := by decide +kernel
theorem dX11_unpack_72 : decode cX11_unpack 72 = .ok (.aload_n 0, 1) := by decide +kernel
theorem dX11_unpack_73 : decode cX11_unpack 73 = .ok (.getfield 201, 3) := by decide +kernel
theorem dX11_unpack_76 : decode cX11_unpack 76 = .ok (.ifCond .ne 140, 3) := by decide +kernel
theorem dX11_unpack_79 : decode cX11_unpack 79 = .ok (.aload_n 0, 1) := by decide +kernel
theorem dX11_unpack_80 : decode cX11_unpack 80 = .ok (.invokevirtual 213, 3) := by decide +kernel
theorem dX11_unpack_83 : decode cX11_unpack 83 = .ok (.istore 7, 2) := by decide +kernel
theorem dX11_unpack_85 : decode cX11_unpack 85 = .ok (.aload_n 0, 1) := by decide +kernel
theorem dX11_unpack_86 : decode cX11_unpack 86 = .ok (.aload_n 0, 1) := by decide +kernel
theorem dX11_unpack_87 : decode cX11_unpack 87 = .ok (.getfield 201, 3) := by decide +kernel
theorem dX11_unpack_90 : decode cX11_unpack 90 = .ok (.ifCond .ne 13, 3) := by decide +kernel
theorem dX11_unpack_93 : decode cX11_unpack 93 = .ok (.iload 7, 2) := by decide +kernel
theorem dX11_unpack_95 : decode cX11_unpack 95 = .ok (.iconst 1, 1) := by decide +kernel
theorem dX11_unpack_96 : decode cX11_unpack 96 = .ok (.iconst 4, 1) := by decide +kernel
theorem dX11_unpack_97 : decode cX11_unpack 97 = .ok (.invokestatic 75, 3) := by decide +kernel
theorem dX11_unpack_100 : decode cX11_unpack 100 = .ok (.ifCond .eq 7, 3) := by decide +kernel
theorem dX11_unpack_103 : decode cX11_unpack 103 = .ok (.iconst 1, 1) := by decide +kernel
theorem dX11_unpack_104 : decode cX11_unpack 104 = .ok (.goto 4, 3) := by decide +kernel
theorem dX11_unpack_107 : decode cX11_unpack 107 = .ok (.iconst 0, 1) := by decide +kernel
theorem dX11_unpack_108 : decode cX11_unpack 108 = .ok (.iconst 1, 1) := by decide +kernel
theorem dX11_unpack_109 : decode cX11_unpack 109 = .ok (.invokevirtual 222, 3) := by decide +kernel
theorem dX11_unpack_112 : decode cX11_unpack 112 = .ok (.aload_n 0, 1) := by decide +kernel
theorem dX11_unpack_113 : decode cX11_unpack 113 = .ok (.getfield 201, 3) := by decide +kernel
theorem dX11_unpack_116 : decode cX11_unpack 116 = .ok (.ifCond .ne 10, 3) := by decide +kernel
theorem dX11_unpack_119 : decode cX11_unpack 119 = .ok (.aload_n 0, 1) := by decide +kernel
theorem dX11_unpack_120 : decode cX11_unpack 120 = .ok (.invokevirtual 213, 3) := by decide +kernel
theorem dX11_unpack_123 : decode cX11_unpack 123 = .ok (.goto 4, 3) := by decide +kernel
theorem dX11_unpack_126 : decode cX11_unpack 126 = .ok (.iconst 0, 1) := by decide +kernel
theorem dX11_unpack_127 : decode cX11_unpack 127 = .ok (.istore 8, 2) := by decide +kernel
theorem dX11_unpack_129 : decode cX11_unpack 129 = .ok (.aload_n 0, 1) := by decide +kernel
theorem dX11_unpack_130 : decode cX11_unpack 130 = .ok (.aload_n 0, 1) := by decide +kernel
theorem dX11_unpack_131 : decode cX11_unpack 131 = .ok (.getfield 201, 3) := by decide +kernel
theorem dX11_unpack_134 : decode cX11_unpack 134 = .ok (.ifCond .ne 13, 3) := by decide +kernel
theorem dX11_unpack_137 : decode cX11_unpack 137 = .ok (.iload 7, 2) := by decide +kernel
theorem dX11_unpack_139 : decode cX11_unpack 139 = .ok (.iload 8, 2) := by decide +kernel
theorem dX11_unpack_141 : decode cX11_unpack 141 = .ok (.invokestatic 83, 3) := by decide +kernel
theorem dX11_unpack_144 : decode cX11_unpack 144 = .ok (.ifCond .eq 7, 3) := by decide +kernel
theorem dX11_unpack_147 : decode cX11_unpack 147 = .ok (.iconst 1, 1) := by decide +kernel
theorem dX11_unpack_148 : decode cX11_unpack 148 = .ok (.goto 4, 3) := by decide +kernel
theorem dX11_unpack_151 : decode cX11_unpack 151 = .ok (.iconst 0, 1) := by decide +kernel
theorem dX11_unpack_152 : decode cX11_unpack 152 = .ok (.iconst 1, 1) := by decide +kernel
theorem dX11_unpack_153 : decode cX11_unpack 153 = .ok (.invokevirtual 222, 3) := by decide +kernel
theorem dX11_unpack_156 : decode cX11_unpack 156 = .ok (.iload 6, 2) := by decide +kernel
theorem dX11_unpack_158 : decode cX11_unpack 158 = .ok (.ifCond .ne 8, 3) := by decide +kernel
theorem dX11_unpack_161 : decode cX11_unpack 161 = .ok (.iload 7, 2) := by decide +kernel
theorem dX11_unpack_163 : decode cX11_unpack 163 = .ok (.goto 4, 3) := by decide +kernel
theorem dX11_unpack_166 : decode cX11_unpack 166 = .ok (.iload_n 2, 1) := by decide +kernel
theorem dX11_unpack_167 : decode cX11_unpack 167 = .ok (.istore_n 2, 1) := by decide +kernel
theorem dX11_unpack_168 : decode cX11_unpack 168 = .ok (.iload 6, 2) := by decide +kernel
theorem dX11_unpack_170 : decode cX11_unpack 170 = .ok (.ifCond .ne 8, 3) := by decide +kernel
theorem dX11_unpack_173 : decode cX11_unpack 173 = .ok (.iload 8, 2) := by decide +kernel
theorem dX11_unpack_175 : decode cX11_unpack 175 = .ok (.goto 4, 3) := by decide +kernel
theorem dX11_unpack_178 : decode cX11_unpack 178 = .ok (.iload_n 3, 1) := by decide +kernel
theorem dX11_unpack_179 : decode cX11_unpack 179 = .ok (.istore_n 3, 1) := by decide +kernel
theorem dX11_unpack_180 : decode cX11_unpack 180 = .ok (.iload 6, 2) := by decide +kernel
theorem dX11_unpack_182 : decode cX11_unpack 182 = .ok (.iconst 1, 1) := by decide +kernel
theorem dX11_unpack_183 : decode cX11_unpack 183 = .ok (.if_icmp .ne 8, 3) := by decide +kernel
theorem dX11_unpack_186 : decode cX11_unpack 186 = .ok (.iload 7, 2) := by decide +kernel
theorem dX11_unpack_188 : decode cX11_unpack 188 = .ok (.goto 5, 3) := by decide +kernel
theorem dX11_unpack_191 : decode cX11_unpack 191 = .ok (.iload 4, 2) := by decide +kernel
theorem dX11_unpack_193 : decode cX11_unpack 193 = .ok (.istore 4, 2) := by decide +kernel
theorem dX11_unpack_195 : decode cX11_unpack 195 = .ok (.iload 6, 2) := by decide +kernel
theorem dX11_unpack_197 : decode cX11_unpack 197 = .ok (.iconst 1, 1) := by decide +kernel
theorem dX11_unpack_198 : decode cX11_unpack 198 = .ok (.if_icmp .ne 8, 3) := by decide +kernel
theorem dX11_unpack_201 : decode cX11_unpack 201 = .ok (.iload 8, 2) := by decide +kernel
theorem dX11_unpack_203 : decode cX11_unpack 203 = .ok (.goto 5, 3) := by decide +kernel
theorem dX11_unpack_206 : decode cX11_unpack 206 = .ok (.iload 5, 2) := by decide +kernel
theorem dX11_unpack_208 : decode cX11_unpack 208 = .ok (.istore 5, 2) := by decide +kernel
theorem dX11_unpack_210 : decode cX11_unpack 210 = .ok (.iinc 6 1, 3) := by decide +kernel
theorem dX11_unpack_213 : decode cX11_unpack 213 = .ok (.goto (-147), 3) := by decide +kernel
theorem dX11_unpack_216 : decode cX11_unpack 216 = .ok (.aload_n 0, 1) := by decide +kernel
theorem dX11_unpack_217 : decode cX11_unpack 217 = .ok (.getfield 201, 3) := by decide +kernel
theorem dX11_unpack_220 : decode cX11_unpack 220 = .ok (.ifCond .ne 10, 3) := by decide +kernel
theorem dX11_unpack_223 : decode cX11_unpack 223 = .ok (.aload_n 0, 1) := by decide +kernel
theorem dX11_unpack_224 : decode cX11_unpack 224 = .ok (.invokevirtual 213, 3) := by decide +kernel
theorem dX11_unpack_227 : decode cX11_unpack 227 = .ok (.goto 4, 3) := by decide +kernel
theorem dX11_unpack_230 : decode cX11_unpack 230 = .ok (.iconst 0, 1) := by decide +kernel
theorem dX11_unpack_231 : decode cX11_unpack 231 = .ok (.istore 6, 2) := by decide +kernel
theorem dX11_unpack_233 : decode cX11_unpack 233 = .ok (.aload_n 0, 1) := by decide +kernel
theorem dX11_unpack_234 : decode cX11_unpack 234 = .ok (.aload_n 0, 1) := by decide +kernel
theorem dX11_unpack_235 : decode cX11_unpack 235 = .ok (.getfield 201, 3) := by decide +kernel
theorem dX11_unpack_238 : decode cX11_unpack 238 = .ok (.ifCond .ne 9, 3) := by decide +kernel
theorem dX11_unpack_241 : decode cX11_unpack 241 = .ok (.iload 6, 2) := by decide +kernel
theorem dX11_unpack_243 : decode cX11_unpack 243 = .ok (.iconst 5, 1) := by decide +kernel
theorem dX11_unpack_244 : decode cX11_unpack 244 = .ok (.if_icmp .ge 7, 3) := by decide +kernel
theorem dX11_unpack_247 : decode cX11_unpack 247 = .ok (.iconst 1, 1) := by decide +kernel
theorem dX11_unpack_248 : decode cX11_unpack 248 = .ok (.goto 4, 3) := by decide +kernel
theorem dX11_unpack_251 : decode cX11_unpack 251 = .ok (.iconst 0, 1) := by decide +kernel
theorem dX11_unpack_252 : decode cX11_unpack 252 = .ok (.iconst 1, 1) := by decide +kernel
theorem dX11_unpack_253 : decode cX11_unpack 253 = .ok (.invokevirtual 222, 3) := by decide +kernel
theorem dX11_unpack_256 : decode cX11_unpack 256 = .ok (.aload_n 0, 1) := by decide +kernel
theorem dX11_unpack_257 : decode cX11_unpack 257 = .ok (.getfield 201, 3) := by decide +kernel
theorem dX11_unpack_260 : decode cX11_unpack 260 = .ok (.ifCond .ne 10, 3) := by decide +kernel
theorem dX11_unpack_263 : decode cX11_unpack 263 = .ok (.aload_n 0, 1) := by decide +kernel
theorem dX11_unpack_264 : decode cX11_unpack 264 = .ok (.invokevirtual 213, 3) := by decide +kernel
theorem dX11_unpack_267 : decode cX11_unpack 267 = .ok (.goto 4, 3) := by decide +kernel
theorem dX11_unpack_270 : decode cX11_unpack 270 = .ok (.iconst 0, 1) := by decide +kernel
theorem dX11_unpack_271 : decode cX11_unpack 271 = .ok (.istore 7, 2) := by decide +kernel
theorem dX11_unpack_273 : decode cX11_unpack 273 = .ok (.aload_n 0, 1) := by decide +kernel
theorem dX11_unpack_274 : decode cX11_unpack 274 = .ok (.getfield 201, 3) := by decide +kernel
theorem dX11_unpack_277 : decode cX11_unpack 277 = .ok (.ifCond .ne 10, 3) := by decide +kernel
theorem dX11_unpack_280 : decode cX11_unpack 280 = .ok (.aload_n 0, 1) := by decide +kernel
theorem dX11_unpack_281 : decode cX11_unpack 281 = .ok (.invokevirtual 213, 3) := by decide +kernel
theorem dX11_unpack_284 : decode cX11_unpack 284 = .ok (.goto 4, 3) := by decide +kernel
theorem dX11_unpack_287 : decode cX11_unpack 287 = .ok (.iconst 0, 1) := by decide +kernel
theorem dX11_unpack_288 : decode cX11_unpack 288 = .ok (.istore 8, 2) := by decide +kernel
theorem dX11_unpack_290 : decode cX11_unpack 290 = .ok (.aload_n 0, 1) := by decide +kernel
theorem dX11_unpack_291 : decode cX11_unpack 291 = .ok (.sipush 256, 3) := by decide +kernel
theorem dX11_unpack_294 : decode cX11_unpack 294 = .ok (.iload 7, 2) := by decide +kernel
theorem dX11_unpack_296 : decode cX11_unpack 296 = .ok (.imul, 1) := by decide +kernel
theorem dX11_unpack_297 : decode cX11_unpack 297 = .ok (.iload 8, 2) := by decide +kernel
theorem dX11_unpack_299 : decode cX11_unpack 299 = .ok (.iadd, 1) := by decide +kernel
theorem dX11_unpack_300 : decode cX11_unpack 300 = .ok (.putfield 226, 3) := by decide +kernel
theorem dX11_unpack_303 : decode cX11_unpack 303 = .ok (.aload_n 0, 1) := by decide +kernel
theorem dX11_unpack_304 : decode cX11_unpack 304 = .ok (.aload_n 0, 1) := by decide +kernel
theorem dX11_unpack_305 : decode cX11_unpack 305 = .ok (.getfield 201, 3) := by decide +kernel
theorem dX11_unpack_308 : decode cX11_unpack 308 = .ok (.ifCond .ne 13, 3) := by decide +kernel
theorem dX11_unpack_311 : decode cX11_unpack 311 = .ok (.aload_n 0, 1) := by decide +kernel
theorem dX11_unpack_312 : decode cX11_unpack 312 = .ok (.getfield 226, 3) := by decide +kernel
theorem dX11_unpack_315 : decode cX11_unpack 315 = .ok (.sipush 300, 3) := by decide +kernel
theorem dX11_unpack_318 : decode cX11_unpack 318 = .ok (.if_icmp .gt 7, 3) := by decide +kernel
theorem dX11_unpack_321 : decode cX11_unpack 321 = .ok (.iconst 1, 1) := by decide +kernel
theorem dX11_unpack_322 : decode cX11_unpack 322 = .ok (.goto 4, 3) := by decide +kernel
theorem dX11_unpack_325 : decode cX11_unpack 325 = .ok (.iconst 0, 1) := by decide +kernel
theorem dX11_unpack_326 : decode cX11_unpack 326 = .ok (.iconst 1, 1) := by decide +kernel
theorem dX11_unpack_327 : decode cX11_unpack 327 = .ok (.invokevirtual 222, 3) := by decide +kernel
theorem dX11_unpack_330 : decode cX11_unpack 330 = .ok (.aload_n 0, 1) := by decide +kernel
theorem dX11_unpack_331 : decode cX11_unpack 331 = .ok (.getfield 201, 3) := by decide +kernel
theorem dX11_unpack_334 : decode cX11_unpack 334 = .ok (.ifCond .ne 85, 3) := by decide +kernel
theorem dX11_unpack_337 : decode cX11_unpack 337 = .ok (.aload_n 0, 1) := by decide +kernel
theorem dX11_unpack_338 : decode cX11_unpack 338 = .ok (.getfield 226, 3) := by decide +kernel
theorem dX11_unpack_341 : decode cX11_unpack 341 = .ok (.ifCond .le 78, 3) := by decide +kernel
theorem dX11_unpack_344 : decode cX11_unpack 344 = .ok (.iload 6, 2) := by decide +kernel
theorem dX11_unpack_346 : decode cX11_unpack 346 = .ok (.ifCond .ne 32, 3) := by decide +kernel
theorem dX11_unpack_349 : decode cX11_unpack 349 = .ok (.aload_n 0, 1) := by decide +kernel
theorem dX11_unpack_350 : decode cX11_unpack 350 = .ok (.getfield 201, 3) := by decide +kernel
theorem dX11_unpack_353 : decode cX11_unpack 353 = .ok (.ifCond .ne 66, 3) := by decide +kernel
theorem dX11_unpack_356 : decode cX11_unpack 356 = .ok (.aload_n 0, 1) := by decide +kernel
theorem dX11_unpack_357 : decode cX11_unpack 357 = .ok (.getfield 216, 3) := by decide +kernel
theorem dX11_unpack_360 : decode cX11_unpack 360 = .ok (.aload_n 0, 1) := by decide +kernel
theorem dX11_unpack_361 : decode cX11_unpack 361 = .ok (.getfield 226, 3) := by decide +kernel
theorem dX11_unpack_364 : decode cX11_unpack 364 = .ok (.if_icmp .ge 55, 3) := by decide +kernel
theorem dX11_unpack_367 : decode cX11_unpack 367 = .ok (.aload_n 0, 1) := by decide +kernel
theorem dX11_unpack_368 : decode cX11_unpack 368 = .ok (.aload_n 0, 1) := by decide +kernel
theorem dX11_unpack_369 : decode cX11_unpack 369 = .ok (.invokevirtual 213, 3) := by decide +kernel
theorem dX11_unpack_372 : decode cX11_unpack 372 = .ok (.invokevirtual 229, 3) := by decide +kernel
theorem dX11_unpack_375 : decode cX11_unpack 375 = .ok (.goto (-26), 3) := by decide +kernel
theorem dX11_unpack_378 : decode cX11_unpack 378 = .ok (.iload 6, 2) := by decide +kernel
theorem dX11_unpack_380 : decode cX11_unpack 380 = .ok (.iconst 2, 1) := by decide +kernel
theorem dX11_unpack_381 : decode cX11_unpack 381 = .ok (.if_icmp .ne 10, 3) := by decide +kernel
theorem dX11_unpack_384 : decode cX11_unpack 384 = .ok (.aload_n 0, 1) := by decide +kernel
theorem dX11_unpack_385 : decode cX11_unpack 385 = .ok (.invokevirtual 239, 3) := by decide +kernel
theorem dX11_unpack_388 : decode cX11_unpack 388 = .ok (.goto 31, 3) := by decide +kernel
theorem dX11_unpack_391 : decode cX11_unpack 391 = .ok (.iload 6, 2) := by decide +kernel
theorem dX11_unpack_393 : decode cX11_unpack 393 = .ok (.iconst 3, 1) := by decide +kernel
theorem dX11_unpack_394 : decode cX11_unpack 394 = .ok (.if_icmp .ne 10, 3) := by decide +kernel
theorem dX11_unpack_397 : decode cX11_unpack 397 = .ok (.aload_n 0, 1) := by decide +kernel
theorem dX11_unpack_398 : decode cX11_unpack 398 = .ok (.invokevirtual 242, 3) := by decide +kernel
theorem dX11_unpack_401 : decode cX11_unpack 401 = .ok (.goto 18, 3) := by decide +kernel
theorem dX11_unpack_404 : decode cX11_unpack 404 = .ok (.aload_n 0, 1) := by decide +kernel
theorem dX11_unpack_405 : decode cX11_unpack 405 = .ok (.iload 6, 2) := by decide +kernel
theorem dX11_unpack_407 : decode cX11_unpack 407 = .ok (.iconst 4, 1) := by decide +kernel
theorem dX11_unpack_408 : decode cX11_unpack 408 = .ok (.if_icmp .ne 7, 3) := by decide +kernel
theorem dX11_unpack_411 : decode cX11_unpack 411 = .ok (.iconst 1, 1) := by decide +kernel
theorem dX11_unpack_412 : decode cX11_unpack 412 = .ok (.goto 4, 3) := by decide +kernel
theorem dX11_unpack_415 : decode cX11_unpack 415 = .ok (.iconst 0, 1) := by decide +kernel
theorem dX11_unpack_416 : decode cX11_unpack 416 = .ok (.invokevirtual 245, 3) := by decide +kernel
theorem dX11_unpack_419 : decode cX11_unpack 419 = .ok (.aload_n 0, 1) := by decide +kernel
theorem dX11_unpack_420 : decode cX11_unpack 420 = .ok (.getfield 201, 3) := by decide +kernel
theorem dX11_unpack_423 : decode cX11_unpack 423 = .ok (.ifCond .ne 23, 3) := by decide +kernel
theorem dX11_unpack_426 : decode cX11_unpack 426 = .ok (.aload_n 0, 1) := by decide +kernel
theorem dX11_unpack_427 : decode cX11_unpack 427 = .ok (.getfield 204, 3) := by decide +kernel
theorem dX11_unpack_430 : decode cX11_unpack 430 = .ok (.aload_n 0, 1) := by decide +kernel
theorem dX11_unpack_431 : decode cX11_unpack 431 = .ok (.getfield 80, 3) := by decide +kernel
theorem dX11_unpack_434 : decode cX11_unpack 434 = .ok (.if_icmp .ge 12, 3) := by decide +kernel
theorem dX11_unpack_437 : decode cX11_unpack 437 = .ok (.aload_n 0, 1) := by decide +kernel
theorem dX11_unpack_438 : decode cX11_unpack 438 = .ok (.iconst 3, 1) := by decide +kernel
theorem dX11_unpack_439 : decode cX11_unpack 439 = .ok (.aload_n 0, 1) := by decide +kernel
theorem dX11_unpack_440 : decode cX11_unpack 440 = .ok (.getfield 204, 3) := by decide +kernel
theorem dX11_unpack_443 : decode cX11_unpack 443 = .ok (.invokevirtual 207, 3) := by decide +kernel
theorem dX11_unpack_446 : decode cX11_unpack 446 = .ok (.aload_n 0, 1) := by decide +kernel
theorem dX11_unpack_447 : decode cX11_unpack 447 = .ok (.getfield 201, 3) := by decide +kernel
theorem dX11_unpack_450 : decode cX11_unpack 450 = .ok (.ifCond .eq 11, 3) := by decide +kernel
theorem dX11_unpack_453 : decode cX11_unpack 453 = .ok (.bipush (-10), 2) := by decide +kernel
theorem dX11_unpack_455 : decode cX11_unpack 455 = .ok (.aload_n 0, 1) := by decide +kernel
theorem dX11_unpack_456 : decode cX11_unpack 456 = .ok (.getfield 201, 3) := by decide +kernel
theorem dX11_unpack_459 : decode cX11_unpack 459 = .ok (.isub, 1) := by decide +kernel
theorem dX11_unpack_460 : decode cX11_unpack 460 = .ok (.ireturn, 1) := by decide +kernel
theorem dX11_unpack_461 : decode cX11_unpack 461 = .ok (.iload 4, 2) := by decide +kernel
theorem dX11_unpack_463 : decode cX11_unpack 463 = .ok (.ifCond .le 16, 3) := by decide +kernel
theorem dX11_unpack_466 : decode cX11_unpack 466 = .ok (.aload_n 0, 1) := by decide +kernel
theorem dX11_unpack_467 : decode cX11_unpack 467 = .ok (.iload 4, 2) := by decide +kernel
theorem dX11_unpack_469 : decode cX11_unpack 469 = .ok (.iload 5, 2) := by decide +kernel
theorem dX11_unpack_471 : decode cX11_unpack 471 = .ok (.aload_n 0, 1) := by decide +kernel
theorem dX11_unpack_472 : decode cX11_unpack 472 = .ok (.getfield 226, 3) := by decide +kernel
theorem dX11_unpack_475 : decode cX11_unpack 475 = .ok (.iconst 1, 1) := by decide +kernel
theorem dX11_unpack_476 : decode cX11_unpack 476 = .ok (.invokevirtual 161, 3) := by decide +kernel
theorem dX11_unpack_479 : decode cX11_unpack 479 = .ok (.iload_n 2, 1) := by decide +kernel
theorem dX11_unpack_480 : decode cX11_unpack 480 = .ok (.ifCond .le 14, 3) := by decide +kernel
theorem dX11_unpack_483 : decode cX11_unpack 483 = .ok (.aload_n 0, 1) := by decide +kernel
theorem dX11_unpack_484 : decode cX11_unpack 484 = .ok (.iload_n 2, 1) := by decide +kernel
theorem dX11_unpack_485 : decode cX11_unpack 485 = .ok (.iload_n 3, 1) := by decide +kernel
theorem dX11_unpack_486 : decode cX11_unpack 486 = .ok (.aload_n 0, 1) := by decide +kernel
theorem dX11_unpack_487 : decode cX11_unpack 487 = .ok (.getfield 226, 3) := by decide +kernel
theorem dX11_unpack_490 : decode cX11_unpack 490 = .ok (.iconst 1, 1) := by decide +kernel
theorem dX11_unpack_491 : decode cX11_unpack 491 = .ok (.invokevirtual 161, 3) := by decide +kernel
theorem dX11_unpack_494 : decode cX11_unpack 494 = .ok (.aload_n 0, 1) := by decide +kernel
theorem dX11_unpack_495 : decode cX11_unpack 495 = .ok (.aload_n 0, 1) := by decide +kernel
theorem dX11_unpack_496 : decode cX11_unpack 496 = .ok (.getfield 226, 3) := by decide +kernel
theorem dX11_unpack_499 : decode cX11_unpack 499 = .ok (.putfield 72, 3) := by decide +kernel
theorem dX11_unpack_502 : decode cX11_unpack 502 = .ok (.iconst 0, 1) := by decide +kernel
theorem dX11_unpack_503 : decode cX11_unpack 503 = .ok (.istore 9, 2) := by decide +kernel
theorem dX11_unpack_505 : decode cX11_unpack 505 = .ok (.iload 9, 2) := by decide +kernel
theorem dX11_unpack_507 : decode cX11_unpack 507 = .ok (.aload_n 0, 1) := by decide +kernel
theorem dX11_unpack_508 : decode cX11_unpack 508 = .ok (.getfield 226, 3) := by decide +kernel
theorem dX11_unpack_511 : decode cX11_unpack 511 = .ok (.if_icmp .ge 23, 3) := by decide +kernel
theorem dX11_unpack_514 : decode cX11_unpack 514 = .ok (.aload_n 0, 1) := by decide +kernel
theorem dX11_unpack_515 : decode cX11_unpack 515 = .ok (.getfield 7, 3) := by decide +kernel
theorem dX11_unpack_518 : decode cX11_unpack 518 = .ok (.iload 9, 2) := by decide +kernel
theorem dX11_unpack_520 : decode cX11_unpack 520 = .ok (.aload_n 0, 1) := by decide +kernel
theorem dX11_unpack_521 : decode cX11_unpack 521 = .ok (.getfield 25, 3) := by decide +kernel
theorem dX11_unpack_524 : decode cX11_unpack 524 = .ok (.iload 9, 2) := by decide +kernel
theorem dX11_unpack_526 : decode cX11_unpack 526 = .ok (.iaload, 1) := by decide +kernel
theorem dX11_unpack_527 : decode cX11_unpack 527 = .ok (.iastore, 1) := by decide +kernel
theorem dX11_unpack_528 : decode cX11_unpack 528 = .ok (.iinc 9 1, 3) := by decide +kernel
theorem dX11_unpack_531 : decode cX11_unpack 531 = .ok (.goto (-26), 3) := by decide +kernel
theorem dX11_unpack_534 : decode cX11_unpack 534 = .ok (.aload_n 0, 1) := by decide +kernel
theorem dX11_unpack_535 : decode cX11_unpack 535 = .ok (.getfield 226, 3) := by decide +kernel
theorem dX11_unpack_538 : decode cX11_unpack 538 = .ok (.ireturn, 1) := by decide +kernel
theorem dX11_place_0 : decode cX11_place 0 = .ok (.aload_n 0, 1) := by decide +kernel
theorem dX11_place_1 : decode cX11_place 1 = .ok (.iconst 0, 1) := by decide +kernel
theorem dX11_place_2 : decode cX11_place 2 = .ok (.putfield 65, 3) := by decide +kernel
theorem dX11_place_5 : decode cX11_place 5 = .ok (.aload_n 0, 1) := by decide +kernel
theorem dX11_place_6 : decode cX11_place 6 = .ok (.getfield 58, 3) := by decide +kernel
theorem dX11_place_9 : decode cX11_place 9 = .ok (.ireturn, 1) := by decide +kernel
theorem dJ9_abs_0f7a4_0 : decode cJ9_abs_0f7a4 0 = .ok (.iload_n 0, 1) := by decide +kernel
theorem dJ9_abs_0f7a4_1 : decode cJ9_abs_0f7a4 1 = .ok (.ifCond .ge 8, 3) := by decide +kernel
theorem dJ9_abs_0f7a4_4 : decode cJ9_abs_0f7a4 4 = .ok (.iload_n 0, 1) := by decide +kernel
theorem dJ9_abs_0f7a4_5 : decode cJ9_abs_0f7a4 5 = .ok (.ineg, 1) := by decide +kernel
theorem dJ9_abs_0f7a4_6 : decode cJ9_abs_0f7a4 6 = .ok (.goto 4, 3) := by decide +kernel
theorem dJ9_abs_0f7a4_9 : decode cJ9_abs_0f7a4 9 = .ok (.iload_n 0, 1) := by decide +kernel
theorem dJ9_abs_0f7a4_10 : decode cJ9_abs_0f7a4 10 = .ok (.ireturn, 1) := by decide +kernel
theorem dJ9_max_7cf53_0 : decode cJ9_max_7cf53 0 = .ok (.iload_n 0, 1) := by decide +kernel
theorem dJ9_max_7cf53_1 : decode cJ9_max_7cf53 1 = .ok (.iload_n 1, 1) := by decide +kernel
theorem dJ9_max_7cf53_2 : decode cJ9_max_7cf53 2 = .ok (.if_icmp .lt 7, 3) := by decide +kernel
theorem dJ9_max_7cf53_5 : decode cJ9_max_7cf53 5 = .ok (.iload_n 0, 1) := by decide +kernel
theorem dJ9_max_7cf53_6 : decode cJ9_max_7cf53 6 = .ok (.goto 4, 3) := by decide +kernel
theorem dJ9_max_7cf53_9 : decode cJ9_max_7cf53 9 = .ok (.iload_n 1, 1) := by decide +kernel
theorem dJ9_max_7cf53_10 : decode cJ9_max_7cf53 10 = .ok (.ireturn, 1) := by decide +kernel
theorem dJ9_min_7cf53_0 : decode cJ9_min_7cf53 0 = .ok (.iload_n 0, 1) := by decide +kernel
theorem dJ9_min_7cf53_1 : decode cJ9_min_7cf53 1 = .ok (.iload_n 1, 1) := by decide +kernel
theorem dJ9_min_7cf53_2 : decode cJ9_min_7cf53 2 = .ok (.if_icmp .gt 7, 3) := by decide +kernel
theorem dJ9_min_7cf53_5 : decode cJ9_min_7cf53 5 = .ok (.iload_n 0, 1) := by decide +kernel
theorem dJ9_min_7cf53_6 : decode cJ9_min_7cf53 6 = .ok (.goto 4, 3) := by decide +kernel
theorem dJ9_min_7cf53_9 : decode cJ9_min_7cf53 9 = .ok (.iload_n 1, 1) := by decide +kernel
theorem dJ9_min_7cf53_10 : decode cJ9_min_7cf53 10 = .ok (.ireturn, 1) := by decide +kernel
theorem dJ7_fill_53178_0 : decode cJ7_fill_53178 0 = .ok (.iconst 0, 1) := by decide +kernel
theorem dJ7_fill_53178_1 : decode cJ7_fill_53178 1 = .ok (.istore_n 2, 1) := by decide +kernel
theorem dJ7_fill_53178_2 : decode cJ7_fill_53178 2 = .ok (.aload_n 0, 1) := by decide +kernel
theorem dJ7_fill_53178_3 : decode cJ7_fill_53178 3 = .ok (.arraylength, 1) := by decide +kernel
theorem dJ7_fill_53178_4 : decode cJ7_fill_53178 4 = .ok (.istore_n 3, 1) := by decide +kernel
theorem dJ7_fill_53178_5 : decode cJ7_fill_53178 5 = .ok (.iload_n 2, 1) := by decide +kernel
theorem dJ7_fill_53178_6 : decode cJ7_fill_53178 6 = .ok (.iload_n 3, 1) := by decide +kernel
theorem dJ7_fill_53178_7 : decode cJ7_fill_53178 7 = .ok (.if_icmp .ge 13, 3) := by decide +kernel
theorem dJ7_fill_53178_10 : decode cJ7_fill_53178 10 = .ok (.aload_n 0, 1) := by decide +kernel
theorem dJ7_fill_53178_11 : decode cJ7_fill_53178 11 = .ok (.iload_n 2, 1) := by decide +kernel
theorem dJ7_fill_53178_12 : decode cJ7_fill_53178 12 = .ok (.iload_n 1, 1) := by decide +kernel
theorem dJ7_fill_53178_13 : decode cJ7_fill_53178 13 = .ok (.iastore, 1) := by decide +kernel
theorem dJ7_fill_53178_14 : decode cJ7_fill_53178 14 = .ok (.iinc 2 1, 3) := by decide +kernel
theorem dJ7_fill_53178_17 : decode cJ7_fill_53178 17 = .ok (.goto (-12), 3) := by decide +kernel
theorem dJ7_fill_53178_20 : decode cJ7_fill_53178 20 = .ok (.return_, 1) := by decide +kernel
theorem dL_share_0 : decode cL_share 0 = .ok (.aload_n 3, 1) := by decide +kernel
theorem dL_share_1 : decode cL_share 1 = .ok (.iconst 0, 1) := by decide +kernel
theorem dL_share_2 : decode cL_share 2 = .ok (.aload_n 0, 1) := by decide +kernel
theorem dL_share_3 : decode cL_share 3 = .ok (.iload_n 1, 1) := by decide +kernel
theorem dL_share_4 : decode cL_share 4 = .ok (.iload_n 2, 1) := by decide +kernel
theorem dL_share_5 : decode cL_share 5 = .ok (.invokevirtual 7, 3) := by decide +kernel
theorem dL_share_8 : decode cL_share 8 = .ok (.lastore, 1) := by decide +kernel
theorem dL_share_9 : decode cL_share 9 = .ok (.goto 7, 3) := by decide +kernel
theorem dL_share_12 : decode cL_share 12 = .ok (.astore 4, 2) := by decide +kernel
theorem dL_share_14 : decode cL_share 14 = .ok (.iconst 1, 1) := by decide +kernel
theorem dL_share_15 : decode cL_share 15 = .ok (.ireturn, 1) := by decide +kernel
theorem dL_share_16 : decode cL_share 16 = .ok (.iconst 0, 1) := by decide +kernel
theorem dL_share_17 : decode cL_share 17 = .ok (.ireturn, 1) := by decide +kernel
theorem dL_law_0 : decode cL_law 0 = .ok (.new 8, 3) := by decide +kernel
theorem dL_law_3 : decode cL_law 3 = .ok (.dup, 1) := by decide +kernel
theorem dL_law_4 : decode cL_law 4 = .ok (.invokespecial 15, 3) := by decide +kernel
theorem dL_law_7 : decode cL_law 7 = .ok (.astore_n 1, 1) := by decide +kernel
theorem dL_law_8 : decode cL_law 8 = .ok (.new 16, 3) := by decide +kernel
theorem dL_law_11 : decode cL_law 11 = .ok (.dup, 1) := by decide +kernel
theorem dL_law_12 : decode cL_law 12 = .ok (.invokespecial 18, 3) := by decide +kernel
theorem dL_law_15 : decode cL_law 15 = .ok (.astore_n 2, 1) := by decide +kernel
theorem dL_law_16 : decode cL_law 16 = .ok (.iconst 1, 1) := by decide +kernel
theorem dL_law_17 : decode cL_law 17 = .ok (.newarray .long, 2) := by decide +kernel
theorem dL_law_19 : decode cL_law 19 = .ok (.astore_n 3, 1) := by decide +kernel
theorem dL_law_20 : decode cL_law 20 = .ok (.iconst 0, 1) := by decide +kernel
theorem dL_law_21 : decode cL_law 21 = .ok (.istore 4, 2) := by decide +kernel
theorem dL_law_23 : decode cL_law 23 = .ok (.iload 4, 2) := by decide +kernel
theorem dL_law_25 : decode cL_law 25 = .ok (.aload_n 0, 1) := by decide +kernel
theorem dL_law_26 : decode cL_law 26 = .ok (.arraylength, 1) := by decide +kernel
theorem dL_law_27 : decode cL_law 27 = .ok (.iconst 4, 1) := by decide +kernel
theorem dL_law_28 : decode cL_law 28 = .ok (.isub, 1) := by decide +kernel
theorem dL_law_29 : decode cL_law 29 = .ok (.if_icmp .gt 680, 3) := by decide +kernel
theorem dL_law_32 : decode cL_law 32 = .ok (.aload_n 0, 1) := by decide +kernel
theorem dL_law_33 : decode cL_law 33 = .ok (.iload 4, 2) := by decide +kernel
theorem dL_law_35 : decode cL_law 35 = .ok (.iaload, 1) := by decide +kernel
theorem dL_law_36 : decode cL_law 36 = .ok (.bipush 31, 2) := by decide +kernel
theorem dL_law_38 : decode cL_law 38 = .ok (.iand, 1) := by decide +kernel
theorem dL_law_39 : decode cL_law 39 = .ok (.tableswitch 664 0 20 #[97, 110, 135, 184, 209, 246, 283, 308, 321, 334, 371, 408, 433, 446, 459, 484, 551, 576, 613, 638, 651], 97) := by decide +kernel
theorem dL_law_136 : decode cL_law 136 = .ok (.aload_n 1, 1) := by decide +kernel
theorem dL_law_137 : decode cL_law 137 = .ok (.invokevirtual 19, 3) := by decide +kernel
theorem dL_law_140 : decode cL_law 140 = .ok (.aload_n 2, 1) := by decide +kernel
theorem dL_law_141 : decode cL_law 141 = .ok (.invokevirtual 23, 3) := by decide +kernel
theorem dL_law_144 : decode cL_law 144 = .ok (.if_icmp .eq 559, 3) := by decide +kernel
theorem dL_law_147 : decode cL_law 147 = .ok (.iconst 0, 1) := by decide +kernel
theorem dL_law_148 : decode cL_law 148 = .ok (.ireturn, 1) := by decide +kernel
theorem dL_law_149 : decode cL_law 149 = .ok (.aload_n 1, 1) := by decide +kernel
theorem dL_law_150 : decode cL_law 150 = .ok (.aload_n 0, 1) := by decide +kernel
theorem dL_law_151 : decode cL_law 151 = .ok (.iload 4, 2) := by decide +kernel
theorem dL_law_153 : decode cL_law 153 = .ok (.iconst 1, 1) := by decide +kernel
theorem dL_law_154 : decode cL_law 154 = .ok (.iadd, 1) := by decide +kernel
theorem dL_law_155 : decode cL_law 155 = .ok (.iaload, 1) := by decide +kernel
theorem dL_law_156 : decode cL_law 156 = .ok (.invokevirtual 24, 3) := by decide +kernel
theorem dL_law_159 : decode cL_law 159 = .ok (.aload_n 2, 1) := by decide +kernel
theorem dL_law_160 : decode cL_law 160 = .ok (.aload_n 0, 1) := by decide +kernel
theorem dL_law_161 : decode cL_law 161 = .ok (.iload 4, 2) := by decide +kernel
theorem dL_law_163 : decode cL_law 163 = .ok (.iconst 1, 1) := by decide +kernel
theorem dL_law_164 : decode cL_law 164 = .ok (.iadd, 1) := by decide +kernel
theorem dL_law_165 : decode cL_law 165 = .ok (.iaload, 1) := by decide +kernel
theorem dL_law_166 : decode cL_law 166 = .ok (.invokevirtual 28, 3) := by decide +kernel
theorem dL_law_169 : decode cL_law 169 = .ok (.if_icmp .eq 534, 3) := by decide +kernel
theorem dL_law_172 : decode cL_law 172 = .ok (.iconst 0, 1) := by decide +kernel
theorem dL_law_173 : decode cL_law 173 = .ok (.ireturn, 1) := by decide +kernel
theorem dL_law_174 : decode cL_law 174 = .ok (.aload_n 1, 1) := by decide +kernel
theorem dL_law_175 : decode cL_law 175 = .ok (.aload_n 0, 1) := by decide +kernel
theorem dL_law_176 : decode cL_law 176 = .ok (.iload 4, 2) := by decide +kernel
theorem dL_law_178 : decode cL_law 178 = .ok (.iconst 1, 1) := by decide +kernel
theorem dL_law_179 : decode cL_law 179 = .ok (.iadd, 1) := by decide +kernel
theorem dL_law_180 : decode cL_law 180 = .ok (.iaload, 1) := by decide +kernel
theorem dL_law_181 : decode cL_law 181 = .ok (.aload_n 0, 1) := by decide +kernel
theorem dL_law_182 : decode cL_law 182 = .ok (.iload 4, 2) := by decide +kernel
theorem dL_law_184 : decode cL_law 184 = .ok (.iconst 2, 1) := by decide +kernel
theorem dL_law_185 : decode cL_law 185 = .ok (.iadd, 1) := by decide +kernel
theorem dL_law_186 : decode cL_law 186 = .ok (.iaload, 1) := by decide +kernel
theorem dL_law_187 : decode cL_law 187 = .ok (.aload_n 0, 1) := by decide +kernel
theorem dL_law_188 : decode cL_law 188 = .ok (.iload 4, 2) := by decide +kernel
theorem dL_law_190 : decode cL_law 190 = .ok (.iconst 3, 1) := by decide +kernel
theorem dL_law_191 : decode cL_law 191 = .ok (.iadd, 1) := by decide +kernel
theorem dL_law_192 : decode cL_law 192 = .ok (.iaload, 1) := by decide +kernel
theorem dL_law_193 : decode cL_law 193 = .ok (.invokevirtual 29, 3) := by decide +kernel
theorem dL_law_196 : decode cL_law 196 = .ok (.aload_n 2, 1) := by decide +kernel
theorem dL_law_197 : decode cL_law 197 = .ok (.aload_n 0, 1) := by decide +kernel
theorem dL_law_198 : decode cL_law 198 = .ok (.iload 4, 2) := by decide +kernel
theorem dL_law_200 : decode cL_law 200 = .ok (.iconst 1, 1) := by decide +kernel
theorem dL_law_201 : decode cL_law 201 = .ok (.iadd, 1) := by decide +kernel
theorem dL_law_202 : decode cL_law 202 = .ok (.iaload, 1) := by decide +kernel
theorem dL_law_203 : decode cL_law 203 = .ok (.aload_n 0, 1) := by decide +kernel
theorem dL_law_204 : decode cL_law 204 = .ok (.iload 4, 2) := by decide +kernel
theorem dL_law_206 : decode cL_law 206 = .ok (.iconst 2, 1) := by decide +kernel
theorem dL_law_207 : decode cL_law 207 = .ok (.iadd, 1) := by decide +kernel
theorem dL_law_208 : decode cL_law 208 = .ok (.iaload, 1) := by decide +kernel
theorem dL_law_209 : decode cL_law 209 = .ok (.aload_n 0, 1) := by decide +kernel
theorem dL_law_210 : decode cL_law 210 = .ok (.iload 4, 2) := by decide +kernel
theorem dL_law_212 : decode cL_law 212 = .ok (.iconst 3, 1) := by decide +kernel
theorem dL_law_213 : decode cL_law 213 = .ok (.iadd, 1) := by decide +kernel
theorem dL_law_214 : decode cL_law 214 = .ok (.iaload, 1) := by decide +kernel
theorem dL_law_215 : decode cL_law 215 = .ok (.invokevirtual 33, 3) := by decide +kernel
theorem dL_law_218 : decode cL_law 218 = .ok (.if_icmp .eq 485, 3) := by decide +kernel
theorem dL_law_221 : decode cL_law 221 = .ok (.iconst 0, 1) := by decide +kernel
theorem dL_law_222 : decode cL_law 222 = .ok (.ireturn, 1) := by decide +kernel
theorem dL_law_223 : decode cL_law 223 = .ok (.aload_n 1, 1) := by decide +kernel
theorem dL_law_224 : decode cL_law 224 = .ok (.aload_n 0, 1) := by decide +kernel
theorem dL_law_225 : decode cL_law 225 = .ok (.iload 4, 2) := by decide +kernel
theorem dL_law_227 : decode cL_law 227 = .ok (.iconst 1, 1) := by decide +kernel
theorem dL_law_228 : decode cL_law 228 = .ok (.iadd, 1) := by decide +kernel
theorem dL_law_229 : decode cL_law 229 = .ok (.iaload, 1) := by decide +kernel
theorem dL_law_230 : decode cL_law 230 = .ok (.invokevirtual 34, 3) := by decide +kernel
theorem dL_law_233 : decode cL_law 233 = .ok (.aload_n 2, 1) := by decide +kernel
theorem dL_law_234 : decode cL_law 234 = .ok (.aload_n 0, 1) := by decide +kernel
theorem dL_law_235 : decode cL_law 235 = .ok (.iload 4, 2) := by decide +kernel
theorem dL_law_237 : decode cL_law 237 = .ok (.iconst 1, 1) := by decide +kernel
theorem dL_law_238 : decode cL_law 238 = .ok (.iadd, 1) := by decide +kernel
theorem dL_law_239 : decode cL_law 239 = .ok (.iaload, 1) := by decide +kernel
theorem dL_law_240 : decode cL_law 240 = .ok (.invokevirtual 37, 3) := by decide +kernel
theorem dL_law_243 : decode cL_law 243 = .ok (.if_icmp .eq 460, 3) := by decide +kernel
theorem dL_law_246 : decode cL_law 246 = .ok (.iconst 0, 1) := by decide +kernel
theorem dL_law_247 : decode cL_law 247 = .ok (.ireturn, 1) := by decide +kernel
theorem dL_law_248 : decode cL_law 248 = .ok (.aload_n 1, 1) := by decide +kernel
theorem dL_law_249 : decode cL_law 249 = .ok (.aload_n 0, 1) := by decide +kernel
theorem dL_law_250 : decode cL_law 250 = .ok (.iload 4, 2) := by decide +kernel
theorem dL_law_252 : decode cL_law 252 = .ok (.iconst 1, 1) := by decide +kernel
theorem dL_law_253 : decode cL_law 253 = .ok (.iadd, 1) := by decide +kernel
theorem dL_law_254 : decode cL_law 254 = .ok (.iaload, 1) := by decide +kernel
theorem dL_law_255 : decode cL_law 255 = .ok (.aload_n 0, 1) := by decide +kernel
theorem dL_law_256 : decode cL_law 256 = .ok (.iload 4, 2) := by decide +kernel
theorem dL_law_258 : decode cL_law 258 = .ok (.iconst 2, 1) := by decide +kernel
theorem dL_law_259 : decode cL_law 259 = .ok (.iadd, 1) := by decide +kernel
theorem dL_law_260 : decode cL_law 260 = .ok (.iaload, 1) := by decide +kernel
theorem dL_law_261 : decode cL_law 261 = .ok (.invokevirtual 38, 3) := by decide +kernel
theorem dL_law_264 : decode cL_law 264 = .ok (.aload_n 2, 1) := by decide +kernel
theorem dL_law_265 : decode cL_law 265 = .ok (.aload_n 0, 1) := by decide +kernel
theorem dL_law_266 : decode cL_law 266 = .ok (.iload 4, 2) := by decide +kernel
theorem dL_law_268 : decode cL_law 268 = .ok (.iconst 1, 1) := by decide +kernel
theorem dL_law_269 : decode cL_law 269 = .ok (.iadd, 1) := by decide +kernel
theorem dL_law_270 : decode cL_law 270 = .ok (.iaload, 1) := by decide +kernel
theorem dL_law_271 : decode cL_law 271 = .ok (.aload_n 0, 1) := by decide +kernel
theorem dL_law_272 : decode cL_law 272 = .ok (.iload 4, 2) := by decide +kernel
theorem dL_law_274 : decode cL_law 274 = .ok (.iconst 2, 1) := by decide +kernel
theorem dL_law_275 : decode cL_law 275 = .ok (.iadd, 1) := by decide +kernel
theorem dL_law_276 : decode cL_law 276 = .ok (.iaload, 1) := by decide +kernel
theorem dL_law_277 : decode cL_law 277 = .ok (.invokevirtual 42, 3) := by decide +kernel
theorem dL_law_280 : decode cL_law 280 = .ok (.if_icmp .eq 423, 3) := by decide +kernel
theorem dL_law_283 : decode cL_law 283 = .ok (.iconst 0, 1) := by decide +kernel
theorem dL_law_284 : decode cL_law 284 = .ok (.ireturn, 1) := by decide +kernel
theorem dL_law_285 : decode cL_law 285 = .ok (.aload_n 1, 1) := by decide +kernel
theorem dL_law_286 : decode cL_law 286 = .ok (.aload_n 0, 1) := by decide +kernel
theorem dL_law_287 : decode cL_law 287 = .ok (.iload 4, 2) := by decide +kernel
theorem dL_law_289 : decode cL_law 289 = .ok (.iconst 1, 1) := by decide +kernel
theorem dL_law_290 : decode cL_law 290 = .ok (.iadd, 1) := by decide +kernel
theorem dL_law_291 : decode cL_law 291 = .ok (.iaload, 1) := by decide +kernel
theorem dL_law_292 : decode cL_law 292 = .ok (.aload_n 0, 1) := by decide +kernel
theorem dL_law_293 : decode cL_law 293 = .ok (.iload 4, 2) := by decide +kernel
theorem dL_law_295 : decode cL_law 295 = .ok (.iconst 2, 1) := by decide +kernel
theorem dL_law_296 : decode cL_law 296 = .ok (.iadd, 1) := by decide +kernel
theorem dL_law_297 : decode cL_law 297 = .ok (.iaload, 1) := by decide +kernel
theorem dL_law_298 : decode cL_law 298 = .ok (.invokevirtual 43, 3) := by decide +kernel
theorem dL_law_301 : decode cL_law 301 = .ok (.aload_n 2, 1) := by decide +kernel
theorem dL_law_302 : decode cL_law 302 = .ok (.aload_n 0, 1) := by decide +kernel
theorem dL_law_303 : decode cL_law 303 = .ok (.iload 4, 2) := by decide +kernel
theorem dL_law_305 : decode cL_law 305 = .ok (.iconst 1, 1) := by decide +kernel
theorem dL_law_306 : decode cL_law 306 = .ok (.iadd, 1) := by decide +kernel
theorem dL_law_307 : decode cL_law 307 = .ok (.iaload, 1) := by decide +kernel
theorem dL_law_308 : decode cL_law 308 = .ok (.aload_n 0, 1) := by decide +kernel
theorem dL_law_309 : decode cL_law 309 = .ok (.iload 4, 2) := by decide +kernel
theorem dL_law_311 : decode cL_law 311 = .ok (.iconst 2, 1) := by decide +kernel
theorem dL_law_312 : decode cL_law 312 = .ok (.iadd, 1) := by decide +kernel
theorem dL_law_313 : decode cL_law 313 = .ok (.iaload, 1) := by decide +kernel
theorem dL_law_314 : decode cL_law 314 = .ok (.invokevirtual 46, 3) := by decide +kernel
theorem dL_law_317 : decode cL_law 317 = .ok (.if_icmp .eq 386, 3) := by decide +kernel
theorem dL_law_320 : decode cL_law 320 = .ok (.iconst 0, 1) := by decide +kernel
theorem dL_law_321 : decode cL_law 321 = .ok (.ireturn, 1) := by decide +kernel
theorem dL_law_322 : decode cL_law 322 = .ok (.aload_n 1, 1) := by decide +kernel
theorem dL_law_323 : decode cL_law 323 = .ok (.aload_n 0, 1) := by decide +kernel
theorem dL_law_324 : decode cL_law 324 = .ok (.iload 4, 2) := by decide +kernel
theorem dL_law_326 : decode cL_law 326 = .ok (.iconst 1, 1) := by decide +kernel
theorem dL_law_327 : decode cL_law 327 = .ok (.iadd, 1) := by decide +kernel
theorem dL_law_328 : decode cL_law 328 = .ok (.iaload, 1) := by decide +kernel
theorem dL_law_329 : decode cL_law 329 = .ok (.invokevirtual 47, 3) := by decide +kernel
theorem dL_law_332 : decode cL_law 332 = .ok (.aload_n 2, 1) := by decide +kernel
theorem dL_law_333 : decode cL_law 333 = .ok (.aload_n 0, 1) := by decide +kernel
theorem dL_law_334 : decode cL_law 334 = .ok (.iload 4, 2) := by decide +kernel
theorem dL_law_336 : decode cL_law 336 = .ok (.iconst 1, 1) := by decide +kernel
theorem dL_law_337 : decode cL_law 337 = .ok (.iadd, 1) := by decide +kernel
theorem dL_law_338 : decode cL_law 338 = .ok (.iaload, 1) := by decide +kernel
theorem dL_law_339 : decode cL_law 339 = .ok (.invokevirtual 50, 3) := by decide +kernel
theorem dL_law_342 : decode cL_law 342 = .ok (.if_icmp .eq 361, 3) := by decide +kernel
theorem dL_law_345 : decode cL_law 345 = .ok (.iconst 0, 1) := by decide +kernel
theorem dL_law_346 : decode cL_law 346 = .ok (.ireturn, 1) := by decide +kernel
theorem dL_law_347 : decode cL_law 347 = .ok (.aload_n 1, 1) := by decide +kernel
theorem dL_law_348 : decode cL_law 348 = .ok (.invokevirtual 51, 3) := by decide +kernel
theorem dL_law_351 : decode cL_law 351 = .ok (.aload_n 2, 1) := by decide +kernel
theorem dL_law_352 : decode cL_law 352 = .ok (.invokevirtual 54, 3) := by decide +kernel
theorem dL_law_355 : decode cL_law 355 = .ok (.if_icmp .eq 348, 3) := by decide +kernel
theorem dL_law_358 : decode cL_law 358 = .ok (.iconst 0, 1) := by decide +kernel
theorem dL_law_359 : decode cL_law 359 = .ok (.ireturn, 1) := by decide +kernel
theorem dL_law_360 : decode cL_law 360 = .ok (.aload_n 1, 1) := by decide +kernel
theorem dL_law_361 : decode cL_law 361 = .ok (.invokevirtual 55, 3) := by decide +kernel
theorem dL_law_364 : decode cL_law 364 = .ok (.aload_n 2, 1) := by decide +kernel
theorem dL_law_365 : decode cL_law 365 = .ok (.invokevirtual 58, 3) := by decide +kernel
theorem dL_law_368 : decode cL_law 368 = .ok (.if_icmp .eq 335, 3) := by decide +kernel
theorem dL_law_371 : decode cL_law 371 = .ok (.iconst 0, 1) := by decide +kernel
theorem dL_law_372 : decode cL_law 372 = .ok (.ireturn, 1) := by decide +kernel
theorem dL_law_373 : decode cL_law 373 = .ok (.aload_n 1, 1) := by decide +kernel
theorem dL_law_374 : decode cL_law 374 = .ok (.aload_n 0, 1) := by decide +kernel
theorem dL_law_375 : decode cL_law 375 = .ok (.iload 4, 2) := by decide +kernel
theorem dL_law_377 : decode cL_law 377 = .ok (.iconst 1, 1) := by decide +kernel
theorem dL_law_378 : decode cL_law 378 = .ok (.iadd, 1) := by decide +kernel
theorem dL_law_379 : decode cL_law 379 = .ok (.iaload, 1) := by decide +kernel
theorem dL_law_380 : decode cL_law 380 = .ok (.aload_n 0, 1) := by decide +kernel
theorem dL_law_381 : decode cL_law 381 = .ok (.iload 4, 2) := by decide +kernel
theorem dL_law_383 : decode cL_law 383 = .ok (.iconst 2, 1) := by decide +kernel
theorem dL_law_384 : decode cL_law 384 = .ok (.iadd, 1) := by decide +kernel
theorem dL_law_385 : decode cL_law 385 = .ok (.iaload, 1) := by decide +kernel
theorem dL_law_386 : decode cL_law 386 = .ok (.invokevirtual 59, 3) := by decide +kernel
theorem dL_law_389 : decode cL_law 389 = .ok (.aload_n 2, 1) := by decide +kernel
theorem dL_law_390 : decode cL_law 390 = .ok (.aload_n 0, 1) := by decide +kernel
theorem dL_law_391 : decode cL_law 391 = .ok (.iload 4, 2) := by decide +kernel
theorem dL_law_393 : decode cL_law 393 = .ok (.iconst 1, 1) := by decide +kernel
theorem dL_law_394 : decode cL_law 394 = .ok (.iadd, 1) := by decide +kernel
theorem dL_law_395 : decode cL_law 395 = .ok (.iaload, 1) := by decide +kernel
theorem dL_law_396 : decode cL_law 396 = .ok (.aload_n 0, 1) := by decide +kernel
theorem dL_law_397 : decode cL_law 397 = .ok (.iload 4, 2) := by decide +kernel
theorem dL_law_399 : decode cL_law 399 = .ok (.iconst 2, 1) := by decide +kernel
theorem dL_law_400 : decode cL_law 400 = .ok (.iadd, 1) := by decide +kernel
theorem dL_law_401 : decode cL_law 401 = .ok (.iaload, 1) := by decide +kernel
theorem dL_law_402 : decode cL_law 402 = .ok (.invokevirtual 62, 3) := by decide +kernel
theorem dL_law_405 : decode cL_law 405 = .ok (.if_icmp .eq 298, 3) := by decide +kernel
theorem dL_law_408 : decode cL_law 408 = .ok (.iconst 0, 1) := by decide +kernel
theorem dL_law_409 : decode cL_law 409 = .ok (.ireturn, 1) := by decide +kernel
theorem dL_law_410 : decode cL_law 410 = .ok (.aload_n 1, 1) := by decide +kernel
theorem dL_law_411 : decode cL_law 411 = .ok (.aload_n 0, 1) := by decide +kernel
theorem dL_law_412 : decode cL_law 412 = .ok (.iload 4, 2) := by decide +kernel
theorem dL_law_414 : decode cL_law 414 = .ok (.iconst 1, 1) := by decide +kernel
theorem dL_law_415 : decode cL_law 415 = .ok (.iadd, 1) := by decide +kernel
theorem dL_law_416 : decode cL_law 416 = .ok (.iaload, 1) := by decide +kernel
theorem dL_law_417 : decode cL_law 417 = .ok (.aload_n 0, 1) := by decide +kernel
theorem dL_law_418 : decode cL_law 418 = .ok (.iload 4, 2) := by decide +kernel
theorem dL_law_420 : decode cL_law 420 = .ok (.iconst 2, 1) := by decide +kernel
theorem dL_law_421 : decode cL_law 421 = .ok (.iadd, 1) := by decide +kernel
theorem dL_law_422 : decode cL_law 422 = .ok (.iaload, 1) := by decide +kernel
theorem dL_law_423 : decode cL_law 423 = .ok (.invokevirtual 63, 3) := by decide +kernel
theorem dL_law_426 : decode cL_law 426 = .ok (.aload_n 2, 1) := by decide +kernel
theorem dL_law_427 : decode cL_law 427 = .ok (.aload_n 0, 1) := by decide +kernel
theorem dL_law_428 : decode cL_law 428 = .ok (.iload 4, 2) := by decide +kernel
theorem dL_law_430 : decode cL_law 430 = .ok (.iconst 1, 1) := by decide +kernel
theorem dL_law_431 : decode cL_law 431 = .ok (.iadd, 1) := by decide +kernel
theorem dL_law_432 : decode cL_law 432 = .ok (.iaload, 1) := by decide +kernel
theorem dL_law_433 : decode cL_law 433 = .ok (.aload_n 0, 1) := by decide +kernel
theorem dL_law_434 : decode cL_law 434 = .ok (.iload 4, 2) := by decide +kernel
theorem dL_law_436 : decode cL_law 436 = .ok (.iconst 2, 1) := by decide +kernel
theorem dL_law_437 : decode cL_law 437 = .ok (.iadd, 1) := by decide +kernel
theorem dL_law_438 : decode cL_law 438 = .ok (.iaload, 1) := by decide +kernel
theorem dL_law_439 : decode cL_law 439 = .ok (.invokevirtual 66, 3) := by decide +kernel
theorem dL_law_442 : decode cL_law 442 = .ok (.if_icmp .eq 261, 3) := by decide +kernel
theorem dL_law_445 : decode cL_law 445 = .ok (.iconst 0, 1) := by decide +kernel
theorem dL_law_446 : decode cL_law 446 = .ok (.ireturn, 1) := by decide +kernel
theorem dL_law_447 : decode cL_law 447 = .ok (.aload_n 1, 1) := by decide +kernel
theorem dL_law_448 : decode cL_law 448 = .ok (.aload_n 0, 1) := by decide +kernel
theorem dL_law_449 : decode cL_law 449 = .ok (.iload 4, 2) := by decide +kernel
theorem dL_law_451 : decode cL_law 451 = .ok (.iconst 1, 1) := by decide +kernel
theorem dL_law_452 : decode cL_law 452 = .ok (.iadd, 1) := by decide +kernel
theorem dL_law_453 : decode cL_law 453 = .ok (.iaload, 1) := by decide +kernel
theorem dL_law_454 : decode cL_law 454 = .ok (.invokevirtual 67, 3) := by decide +kernel
theorem dL_law_457 : decode cL_law 457 = .ok (.aload_n 2, 1) := by decide +kernel
theorem dL_law_458 : decode cL_law 458 = .ok (.aload_n 0, 1) := by decide +kernel
theorem dL_law_459 : decode cL_law 459 = .ok (.iload 4, 2) := by decide +kernel
theorem dL_law_461 : decode cL_law 461 = .ok (.iconst 1, 1) := by decide +kernel
theorem dL_law_462 : decode cL_law 462 = .ok (.iadd, 1) := by decide +kernel
theorem dL_law_463 : decode cL_law 463 = .ok (.iaload, 1) := by decide +kernel
theorem dL_law_464 : decode cL_law 464 = .ok (.invokevirtual 70, 3) := by decide +kernel
theorem dL_law_467 : decode cL_law 467 = .ok (.if_icmp .eq 236, 3) := by decide +kernel
theorem dL_law_470 : decode cL_law 470 = .ok (.iconst 0, 1) := by decide +kernel
theorem dL_law_471 : decode cL_law 471 = .ok (.ireturn, 1) := by decide +kernel
theorem dL_law_472 : decode cL_law 472 = .ok (.aload_n 1, 1) := by decide +kernel
theorem dL_law_473 : decode cL_law 473 = .ok (.invokevirtual 71, 3) := by decide +kernel
theorem dL_law_476 : decode cL_law 476 = .ok (.aload_n 2, 1) := by decide +kernel
theorem dL_law_477 : decode cL_law 477 = .ok (.invokevirtual 74, 3) := by decide +kernel
theorem dL_law_480 : decode cL_law 480 = .ok (.if_icmp .eq 223, 3) := by decide +kernel
theorem dL_law_483 : decode cL_law 483 = .ok (.iconst 0, 1) := by decide +kernel
theorem dL_law_484 : decode cL_law 484 = .ok (.ireturn, 1) := by decide +kernel
theorem dL_law_485 : decode cL_law 485 = .ok (.aload_n 1, 1) := by decide +kernel
theorem dL_law_486 : decode cL_law 486 = .ok (.invokevirtual 75, 3) := by decide +kernel
theorem dL_law_489 : decode cL_law 489 = .ok (.aload_n 2, 1) := by decide +kernel
theorem dL_law_490 : decode cL_law 490 = .ok (.invokevirtual 78, 3) := by decide +kernel
theorem dL_law_493 : decode cL_law 493 = .ok (.if_icmp .eq 210, 3) := by decide +kernel
theorem dL_law_496 : decode cL_law 496 = .ok (.iconst 0, 1) := by decide +kernel
theorem dL_law_497 : decode cL_law 497 = .ok (.ireturn, 1) := by decide +kernel
theorem dL_law_498 : decode cL_law 498 = .ok (.aload_n 1, 1) := by decide +kernel
theorem dL_law_499 : decode cL_law 499 = .ok (.aload_n 0, 1) := by decide +kernel
theorem dL_law_500 : decode cL_law 500 = .ok (.iload 4, 2) := by decide +kernel
theorem dL_law_502 : decode cL_law 502 = .ok (.iconst 1, 1) := by decide +kernel
theorem dL_law_503 : decode cL_law 503 = .ok (.iadd, 1) := by decide +kernel
theorem dL_law_504 : decode cL_law 504 = .ok (.iaload, 1) := by decide +kernel
theorem dL_law_505 : decode cL_law 505 = .ok (.invokevirtual 79, 3) := by decide +kernel
theorem dL_law_508 : decode cL_law 508 = .ok (.aload_n 2, 1) := by decide +kernel
theorem dL_law_509 : decode cL_law 509 = .ok (.aload_n 0, 1) := by decide +kernel
theorem dL_law_510 : decode cL_law 510 = .ok (.iload 4, 2) := by decide +kernel
theorem dL_law_512 : decode cL_law 512 = .ok (.iconst 1, 1) := by decide +kernel
theorem dL_law_513 : decode cL_law 513 = .ok (.iadd, 1) := by decide +kernel
theorem dL_law_514 : decode cL_law 514 = .ok (.iaload, 1) := by decide +kernel
theorem dL_law_515 : decode cL_law 515 = .ok (.invokevirtual 82, 3) := by decide +kernel
theorem dL_law_518 : decode cL_law 518 = .ok (.if_icmp .eq 185, 3) := by decide +kernel
theorem dL_law_521 : decode cL_law 521 = .ok (.iconst 0, 1) := by decide +kernel
theorem dL_law_522 : decode cL_law 522 = .ok (.ireturn, 1) := by decide +kernel
theorem dL_law_523 : decode cL_law 523 = .ok (.aload_n 1, 1) := by decide +kernel
theorem dL_law_524 : decode cL_law 524 = .ok (.aload_n 0, 1) := by decide +kernel
theorem dL_law_525 : decode cL_law 525 = .ok (.iload 4, 2) := by decide +kernel
theorem dL_law_527 : decode cL_law 527 = .ok (.iconst 1, 1) := by decide +kernel
theorem dL_law_528 : decode cL_law 528 = .ok (.iadd, 1) := by decide +kernel
theorem dL_law_529 : decode cL_law 529 = .ok (.iaload, 1) := by decide +kernel
theorem dL_law_530 : decode cL_law 530 = .ok (.aload_n 0, 1) := by decide +kernel
theorem dL_law_531 : decode cL_law 531 = .ok (.iload 4, 2) := by decide +kernel
theorem dL_law_533 : decode cL_law 533 = .ok (.iconst 2, 1) := by decide +kernel
theorem dL_law_534 : decode cL_law 534 = .ok (.iadd, 1) := by decide +kernel
theorem dL_law_535 : decode cL_law 535 = .ok (.iaload, 1) := by decide +kernel
theorem dL_law_536 : decode cL_law 536 = .ok (.aload_n 3, 1) := by decide +kernel
theorem dL_law_537 : decode cL_law 537 = .ok (.invokestatic 83, 3) := by decide +kernel
theorem dL_law_540 : decode cL_law 540 = .ok (.istore 5, 2) := by decide +kernel
theorem dL_law_542 : decode cL_law 542 = .ok (.aload_n 2, 1) := by decide +kernel
theorem dL_law_543 : decode cL_law 543 = .ok (.aload_n 0, 1) := by decide +kernel
theorem dL_law_544 : decode cL_law 544 = .ok (.iload 4, 2) := by decide +kernel
theorem dL_law_546 : decode cL_law 546 = .ok (.iconst 1, 1) := by decide +kernel
theorem dL_law_547 : decode cL_law 547 = .ok (.iadd, 1) := by decide +kernel
theorem dL_law_548 : decode cL_law 548 = .ok (.iaload, 1) := by decide +kernel
theorem dL_law_549 : decode cL_law 549 = .ok (.aload_n 0, 1) := by decide +kernel
theorem dL_law_550 : decode cL_law 550 = .ok (.iload 4, 2) := by decide +kernel
theorem dL_law_552 : decode cL_law 552 = .ok (.iconst 2, 1) := by decide +kernel
theorem dL_law_553 : decode cL_law 553 = .ok (.iadd, 1) := by decide +kernel
theorem dL_law_554 : decode cL_law 554 = .ok (.iaload, 1) := by decide +kernel
theorem dL_law_555 : decode cL_law 555 = .ok (.invokevirtual 88, 3) := by decide +kernel
theorem dL_law_558 : decode cL_law 558 = .ok (.lstore 6, 2) := by decide +kernel
theorem dL_law_560 : decode cL_law 560 = .ok (.aload_n 2, 1) := by decide +kernel
theorem dL_law_561 : decode cL_law 561 = .ok (.invokevirtual 89, 3) := by decide +kernel
theorem dL_law_564 : decode cL_law 564 = .ok (.iload 5, 2) := by decide +kernel
theorem dL_law_566 : decode cL_law 566 = .ok (.if_icmp .eq 5, 3) := by decide +kernel
theorem dL_law_569 : decode cL_law 569 = .ok (.iconst 0, 1) := by decide +kernel
theorem dL_law_570 : decode cL_law 570 = .ok (.ireturn, 1) := by decide +kernel
theorem dL_law_571 : decode cL_law 571 = .ok (.iload 5, 2) := by decide +kernel
theorem dL_law_573 : decode cL_law 573 = .ok (.ifCond .ne 14, 3) := by decide +kernel
theorem dL_law_576 : decode cL_law 576 = .ok (.aload_n 3, 1) := by decide +kernel
theorem dL_law_577 : decode cL_law 577 = .ok (.iconst 0, 1) := by decide +kernel
theorem dL_law_578 : decode cL_law 578 = .ok (.laload, 1) := by decide +kernel
theorem dL_law_579 : decode cL_law 579 = .ok (.lload 6, 2) := by decide +kernel
theorem dL_law_581 : decode cL_law 581 = .ok (.lcmp, 1) := by decide +kernel
theorem dL_law_582 : decode cL_law 582 = .ok (.ifCond .eq 5, 3) := by decide +kernel
theorem dL_law_585 : decode cL_law 585 = .ok (.iconst 0, 1) := by decide +kernel
theorem dL_law_586 : decode cL_law 586 = .ok (.ireturn, 1) := by decide +kernel
theorem dL_law_587 : decode cL_law 587 = .ok (.goto 116, 3) := by decide +kernel
theorem dL_law_590 : decode cL_law 590 = .ok (.aload_n 1, 1) := by decide +kernel
theorem dL_law_591 : decode cL_law 591 = .ok (.aload_n 0, 1) := by decide +kernel
theorem dL_law_592 : decode cL_law 592 = .ok (.iload 4, 2) := by decide +kernel
theorem dL_law_594 : decode cL_law 594 = .ok (.iconst 1, 1) := by decide +kernel
theorem dL_law_595 : decode cL_law 595 = .ok (.iadd, 1) := by decide +kernel
theorem dL_law_596 : decode cL_law 596 = .ok (.iaload, 1) := by decide +kernel
theorem dL_law_597 : decode cL_law 597 = .ok (.invokevirtual 92, 3) := by decide +kernel
theorem dL_law_600 : decode cL_law 600 = .ok (.aload_n 2, 1) := by decide +kernel
theorem dL_law_601 : decode cL_law 601 = .ok (.aload_n 0, 1) := by decide +kernel
theorem dL_law_602 : decode cL_law 602 = .ok (.iload 4, 2) := by decide +kernel
theorem dL_law_604 : decode cL_law 604 = .ok (.iconst 1, 1) := by decide +kernel
theorem dL_law_605 : decode cL_law 605 = .ok (.iadd, 1) := by decide +kernel
theorem dL_law_606 : decode cL_law 606 = .ok (.iaload, 1) := by decide +kernel
theorem dL_law_607 : decode cL_law 607 = .ok (.invokevirtual 95, 3) := by decide +kernel
theorem dL_law_610 : decode cL_law 610 = .ok (.if_icmp .eq 93, 3) := by decide +kernel
theorem dL_law_613 : decode cL_law 613 = .ok (.iconst 0, 1) := by decide +kernel
theorem dL_law_614 : decode cL_law 614 = .ok (.ireturn, 1) := by decide +kernel
theorem dL_law_615 : decode cL_law 615 = .ok (.aload_n 1, 1) := by decide +kernel
theorem dL_law_616 : decode cL_law 616 = .ok (.aload_n 0, 1) := by decide +kernel
theorem dL_law_617 : decode cL_law 617 = .ok (.iload 4, 2) := by decide +kernel
theorem dL_law_619 : decode cL_law 619 = .ok (.iconst 1, 1) := by decide +kernel
theorem dL_law_620 : decode cL_law 620 = .ok (.iadd, 1) := by decide +kernel
theorem dL_law_621 : decode cL_law 621 = .ok (.iaload, 1) := by decide +kernel
theorem dL_law_622 : decode cL_law 622 = .ok (.aload_n 0, 1) := by decide +kernel
theorem dL_law_623 : decode cL_law 623 = .ok (.iload 4, 2) := by decide +kernel
theorem dL_law_625 : decode cL_law 625 = .ok (.iconst 2, 1) := by decide +kernel
theorem dL_law_626 : decode cL_law 626 = .ok (.iadd, 1) := by decide +kernel
theorem dL_law_627 : decode cL_law 627 = .ok (.iaload, 1) := by decide +kernel
theorem dL_law_628 : decode cL_law 628 = .ok (.invokevirtual 96, 3) := by decide +kernel
theorem dL_law_631 : decode cL_law 631 = .ok (.aload_n 2, 1) := by decide +kernel
theorem dL_law_632 : decode cL_law 632 = .ok (.aload_n 0, 1) := by decide +kernel
theorem dL_law_633 : decode cL_law 633 = .ok (.iload 4, 2) := by decide +kernel
theorem dL_law_635 : decode cL_law 635 = .ok (.iconst 1, 1) := by decide +kernel
theorem dL_law_636 : decode cL_law 636 = .ok (.iadd, 1) := by decide +kernel
theorem dL_law_637 : decode cL_law 637 = .ok (.iaload, 1) := by decide +kernel
theorem dL_law_638 : decode cL_law 638 = .ok (.aload_n 0, 1) := by decide +kernel
theorem dL_law_639 : decode cL_law 639 = .ok (.iload 4, 2) := by decide +kernel
theorem dL_law_641 : decode cL_law 641 = .ok (.iconst 2, 1) := by decide +kernel
theorem dL_law_642 : decode cL_law 642 = .ok (.iadd, 1) := by decide +kernel
theorem dL_law_643 : decode cL_law 643 = .ok (.iaload, 1) := by decide +kernel
theorem dL_law_644 : decode cL_law 644 = .ok (.invokevirtual 99, 3) := by decide +kernel
theorem dL_law_647 : decode cL_law 647 = .ok (.if_icmp .eq 56, 3) := by decide +kernel
theorem dL_law_650 : decode cL_law 650 = .ok (.iconst 0, 1) := by decide +kernel
theorem dL_law_651 : decode cL_law 651 = .ok (.ireturn, 1) := by decide +kernel
theorem dL_law_652 : decode cL_law 652 = .ok (.aload_n 1, 1) := by decide +kernel
theorem dL_law_653 : decode cL_law 653 = .ok (.aload_n 0, 1) := by decide +kernel
theorem dL_law_654 : decode cL_law 654 = .ok (.iload 4, 2) := by decide +kernel
theorem dL_law_656 : decode cL_law 656 = .ok (.iconst 1, 1) := by decide +kernel
theorem dL_law_657 : decode cL_law 657 = .ok (.iadd, 1) := by decide +kernel
theorem dL_law_658 : decode cL_law 658 = .ok (.iaload, 1) := by decide +kernel
theorem dL_law_659 : decode cL_law 659 = .ok (.invokevirtual 100, 3) := by decide +kernel
theorem dL_law_662 : decode cL_law 662 = .ok (.aload_n 2, 1) := by decide +kernel
theorem dL_law_663 : decode cL_law 663 = .ok (.aload_n 0, 1) := by decide +kernel
theorem dL_law_664 : decode cL_law 664 = .ok (.iload 4, 2) := by decide +kernel
theorem dL_law_666 : decode cL_law 666 = .ok (.iconst 1, 1) := by decide +kernel
theorem dL_law_667 : decode cL_law 667 = .ok (.iadd, 1) := by decide +kernel
theorem dL_law_668 : decode cL_law 668 = .ok (.iaload, 1) := by decide +kernel
theorem dL_law_669 : decode cL_law 669 = .ok (.invokevirtual 103, 3) := by decide +kernel
theorem dL_law_672 : decode cL_law 672 = .ok (.if_icmp .eq 31, 3) := by decide +kernel
theorem dL_law_675 : decode cL_law 675 = .ok (.iconst 0, 1) := by decide +kernel
theorem dL_law_676 : decode cL_law 676 = .ok (.ireturn, 1) := by decide +kernel
theorem dL_law_677 : decode cL_law 677 = .ok (.aload_n 1, 1) := by decide +kernel
theorem dL_law_678 : decode cL_law 678 = .ok (.invokevirtual 104, 3) := by decide +kernel
theorem dL_law_681 : decode cL_law 681 = .ok (.aload_n 2, 1) := by decide +kernel
theorem dL_law_682 : decode cL_law 682 = .ok (.invokevirtual 107, 3) := by decide +kernel
theorem dL_law_685 : decode cL_law 685 = .ok (.if_icmp .eq 18, 3) := by decide +kernel
theorem dL_law_688 : decode cL_law 688 = .ok (.iconst 0, 1) := by decide +kernel
theorem dL_law_689 : decode cL_law 689 = .ok (.ireturn, 1) := by decide +kernel
theorem dL_law_690 : decode cL_law 690 = .ok (.aload_n 1, 1) := by decide +kernel
theorem dL_law_691 : decode cL_law 691 = .ok (.invokevirtual 108, 3) := by decide +kernel
theorem dL_law_694 : decode cL_law 694 = .ok (.aload_n 2, 1) := by decide +kernel
theorem dL_law_695 : decode cL_law 695 = .ok (.invokevirtual 111, 3) := by decide +kernel
theorem dL_law_698 : decode cL_law 698 = .ok (.if_icmp .eq 5, 3) := by decide +kernel
theorem dL_law_701 : decode cL_law 701 = .ok (.iconst 0, 1) := by decide +kernel
theorem dL_law_702 : decode cL_law 702 = .ok (.ireturn, 1) := by decide +kernel
end
section
theorem dL_law_703 : decode cL_law 703 = .ok (.iinc 4 4, 3) := by decide +kernel
theorem dL_law_706 : decode cL_law 706 = .ok (.goto (-683), 3) := by decide +kernel
theorem dL_law_709 : decode cL_law 709 = .ok (.iconst 1, 1) := by decide +kernel
theorem dL_law_710 : decode cL_law 710 = .ok (.ireturn, 1) := by decide +kernel
end
section
section VXA
/-! The laws vx_back, vx_callV, vx_callS, vx_callSW, vx_throw0, vx_throwS follow proofs of the library, with one case more: JvmDerived/Free/Laws.lean (Back.of_free), Shelf42/LK1.lean (callV, callS), Shelf/KitTraced.lean (throwNew0V, throwNewS). -/
/-- where a method has thrown q: the class by its name, the cell, what was written, the world -/
def vx_T (XC : String → State → State → Prop) (st : State) (q : Addr) (t : State) (mc ms : Nat) (free : Addr → Prop) : Prop :=
  ∃ (E : String) (ce : Cell) (L : List Loc), XC E st t ∧ t.heap[q]? = some ce ∧ ce.vm = .none ∧ st.vm.findClass E = some ce.cls ∧ st.WarmedH t.vm ∧ st.sameButNew ({ t with vm := st.vm } : State) L mc ms ∧ ∀ z ∈ L, free z.base
def vx_Q (Qc : Array Value → State → Outcome → State → Prop) (XC : String → State → State → Prop) (mc ms : Nat) (free : Addr → Prop) : Array Value → State → Outcome → State → Prop := fun a st o t =>
  (Qc a st o t ∧ ∃ L, FrameEnd st o t L mc ms ∧ ∀ q ∈ L, free q.base) ∨ ∃ q, o = .threw q ∧ vx_T XC st q t mc ms free
/-- a callee that returns or throws -/
def vx_Met (l : Launch) (y : MethodName) (ws : List Cond) (rm : Room) (Pc : Array Value → State → Prop) (Qc : Array Value → State → Outcome → State → Prop) (XC : String → State → State → Prop) (mc ms : Nat) (free : Addr → Prop) : Prop :=
  MetFree l y (headSpec ws rm) Pc (fun _ _ _ _ _ => True) (vx_Q Qc XC mc ms free)
def vx_Post (XC : String → State → State → Prop) (mc ms : Nat) (free : Addr → Prop) : Pt → Array Value → Addr → Pt → Prop := fun A a q B =>
  ∃ (g : JFrame) (mk : MethodId) (t : State) (L : List Loc) (E : String) (ce : Cell), B.U.heap = t.heap ∧ B.U.vm = t.vm ∧ XC E (A.U.calling g mk a) t ∧ t.heap[q]? = some ce ∧ ce.vm = .none ∧ A.U.vm.findClass E = some ce.cls ∧ B.locs = A.locs ++ L ∧ (∀ z ∈ L, free z.base) ∧ B.cells = A.cells + mc ∧ B.slots = A.slots + ms
def vx_Back (l : Launch) (R : Room) (p : Program) (e : Env) (below : List Frame) (s : State) (sargs : Array Value) (y : MethodName) (len W9 : Nat)
    (Pre : Pt → Array Value → Prop) (Post : Pt → Array Value → Option Value → Pt → Prop) (PostX : Pt → Array Value → Addr → Pt → Prop) : Prop :=
  ∀ (m : MethodId) (meth : Method) (c : Code) (A : Pt) (g : JFrame) (ig : Instr) (mk : MethodId) (a : Array Value),
    Stand p l e R s m sargs below meth c A.U A.locs A.cells A.slots → g.method = m → g.locals.size = c.maxLocals → decode c.code g.pc = .ok (ig, len) →
    2 * g.monitorRoom + (g.stack.map fun v => v.category).sum ≤ W9 → A.U.methodNamed? y = some mk → Pre A a →
    (∃ (v : Option Value) (B : Pt), Stand p l e R s m sargs below meth c B.U B.locs B.cells B.slots ∧ Post A a v B ∧
      Steps p.tables e below (doInvoke e (A.U.setTop g) [] mk a).1 (B.U.setTop { g with pc := g.pc + len, stack := v.toList ++ g.stack })) ∨
    (∃ (q : Addr) (B : Pt), Stand p l e R s m sargs below meth c B.U B.locs B.cells B.slots ∧ PostX A a q B ∧
      Steps p.tables e below (doInvoke e (A.U.setTop g) [] mk a).1 ((B.U.setTop g).pushFrame (.throwing q)))
section Payer
variable {l : Launch} {R : Room} {p : Program} {e : Env} {below : List Frame} {s : State} {sargs : Array Value} {y : MethodName} {len W9 : Nat}
theorem vx_back {ws : List Cond} {rm : Room} {Pc : Array Value → State → Prop} {Qc : Array Value → State → Outcome → State → Prop} {XC : String → State → State → Prop} {mc ms : Nat} {free : Addr → Prop} {bytes : ByteArray} {maxL : Nat} {ret : Option FieldType}
    (hM : vx_Met l y ws rm Pc Qc XC mc ms free) (hblind : FrameBlind Pc) (hrc : rm.cells = mc) (hrs : rm.slots = ms)
    (hframes : rm.frames + 1 ≤ R.frames) (hlocals : W9 + (maxL + 11) + rm.locals ≤ R.locals)
    (hws : ∀ w ∈ ws, ∀ a' U, s.WarmedH U.vm → w.before a' U = true) (hcode : Cond.code y bytes maxL ret ∈ ws) (hinit : ∀ a' U, s.WarmedH U.vm → (Cond.initialized y.cls).before a' U = true) :
    vx_Back l R p e below s sargs y len W9 (PreOf R mc ms Pc) (PostOf Qc mc ms free) (vx_Post XC mc ms free) := by
  intro m meth c A g ig mk a X hg hsize hdg hW hn hp
  have h1 : (headSpec ws rm).pre.before a A.U = true := atoms_intro fun w hw => hws w hw _ _ X.warmed
  have h2 : (Cond.code y bytes maxL ret).before a A.U = true := hws _ hcode _ _ X.warmed
  have h3 : (Cond.initialized y.cls).before a A.U = true := hinit _ _ X.warmed
  have h4 : A.cells + (headSpec ws rm).room.cells ≤ R.cells := by rw [show (headSpec ws rm).room.cells = mc from hrc]; exact hp.1
  have h5 : A.slots + (headSpec ws rm).room.slots ≤ R.slots := by rw [show (headSpec ws rm).room.slots = ms from hrs]; exact hp.2.1
  have hPc : Pc a (A.U.calling g mk a) := hblind _ _ _ _ hp.2.2
  obtain ⟨U, Ls, c0, s0⟩ := A
  dsimp only [Pt.U, Pt.locs, Pt.cells, Pt.slots] at h1 h2 h3 h4 h5 X hn hPc ⊢
  obtain ⟨methY, cY, hmY, hcY, -, hlY, -, -, -, -⟩ := Cond.code_spec hn h2
  obtain ⟨kY, hkY, -⟩ := className_of_methodNamed hn
  have hinitY : kY.init = .initialized := Cond.initialized_spec (findClass_of_methodNamed hn) hkY h3
  have h : At U g.method c below := by rw [hg]; exact X.here
  have hlocals9 : W9 + (maxL + 11) + (headSpec ws rm).room.locals ≤ R.locals := hlocals
  have happ : (headSpec ws rm).appliesLoose y e.platform (U.calling g mk a) = true :=
    Spec.appliesLoose_calling (g := g) h hdg hn hkY hinitY
      (X.room_calling (g := g) (R' := (headSpec ws rm).room) hsize hmY hcY hframes (by rw [hlY]; omega) h4 h5) h1
  obtain ⟨mid, hmid⟩ := h.above
  have hfr : (U.setTop g).frames = (.java g :: mid) ++ below := by rw [State.frames_setTop' g h.top, hmid]; rfl
  obtain ⟨o, s₂, hsteps, -, hend, hq⟩ := Steps.callFree hM p X.admits X.cas X.clock (acts := []) hfr happ hPc trivial
  have hq' : vx_Q Qc XC mc ms free a (U.calling g mk a) o s₂ := hq
  rw [State.frames_setTop' g h.top] at hend
  obtain ⟨g₀, hg0⟩ := Option.isSome_iff_exists.mp h.top
  obtain ⟨r, hr⟩ := State.topJava?_eq_some.mp hg0
  have hr' : (({ U with heap := s₂.heap, slotsUsed := s₂.slotsUsed } : State).setVm s₂.vm).frames = .java g₀ :: r := hr
  rcases hq' with ⟨hqc, L, hfe, hL⟩ | ⟨q, rfl, E, ce, L, hx, hce, hcv, hcl, hW₂, hsm, hL⟩
  · obtain ⟨⟨v, rfl⟩, hW₂, e2, q2, q3, q4, q5, q6⟩ := id hfe
    have e3 : s₂ = ({ (U.calling g mk a).setFrames s₂.frames with heap := s₂.heap, slotsUsed := s₂.slotsUsed } : State).setVm s₂.vm := by
      have : s₂ = ({ s₂ with vm := (U.calling g mk a).vm } : State).setVm s₂.vm := rfl
      rw [e2] at this
      exact this
    obtain ⟨c₂, i₂, len₂, hc₂, hd₂, hf₂⟩ := hend
    have hW' : U.WarmedH s₂.vm := hW₂
    have hcc : c₂ = c := by
      have h1 : s₂.code? g.method = U.code? g.method := by
        rw [State.code?_eq, State.code?_eq, hW'.alike.method?]
      exact Option.some.inj (hc₂.symm.trans (h1.trans h.code))
    subst hcc
    have hlen : len₂ = len := by rw [hdg] at hd₂; cases hd₂; rfl
    subst hlen
    have hs₂ : s₂ = (({ U with heap := s₂.heap, slotsUsed := s₂.slotsUsed } : State).setVm s₂.vm).setTop { g with pc := g.pc + len₂, stack := v.toList ++ g.stack } := by
      refine e3.trans ?_
      rw [hf₂, State.calling_eq h.top, State.setFrames_setFrames, State.setTop_of_frames _ hr', hr]
      rfl
    have hsame : U.sameButNew ({ U with heap := s₂.heap, slotsUsed := s₂.slotsUsed } : State) L mc ms := by
      refine ⟨?_, q2, q3, q4, q5, q6⟩
      obtain ⟨t, ht, -⟩ := State.frames_cons hr
      show ({ U with heap := s₂.heap, slotsUsed := s₂.slotsUsed } : State) = { U.setFrames U.frames with heap := s₂.heap, slotsUsed := s₂.slotsUsed }
      rw [State.setFrames_self ht]
    subst hg
    refine Or.inl ⟨v, ⟨(({ U with heap := s₂.heap, slotsUsed := s₂.slotsUsed } : State).setVm s₂.vm), Ls ++ L, c0 + mc, s0 + ms⟩,
      ⟨X.admits, X.cas, X.clock, X.frames, X.room, X.hears, X.method, X.code, (X.here.setHeapUsed s₂.heap s₂.slotsUsed).setVm hW'.alike, X.tail, State.WarmedH.trans X.warmed hW', X.limits, X.bytes, X.same.trans (hsame.setVm s.vm)⟩,
      ⟨g, mk, s₂, L, rfl, rfl, hqc, rfl, hL, rfl, rfl⟩, ?_⟩
    show Steps p.tables e below _ ((({ U with heap := s₂.heap, slotsUsed := s₂.slotsUsed } : State).setVm s₂.vm).setTop { g with pc := g.pc + len₂, stack := v.toList ++ g.stack })
    rw [← hs₂]
    exact hsteps
  · obtain ⟨e2, q2, q3, q4, q5, q6⟩ := id hsm
    have e3 : s₂ = ({ (U.calling g mk a).setFrames s₂.frames with heap := s₂.heap, slotsUsed := s₂.slotsUsed } : State).setVm s₂.vm := by
      have : s₂ = ({ s₂ with vm := (U.calling g mk a).vm } : State).setVm s₂.vm := rfl
      rw [e2] at this
      exact this
    have hf₂ : s₂.frames = .throwing q :: .java g :: U.frames.tail := hend
    have hW' : U.WarmedH s₂.vm := hW₂
    have hs₂ : s₂ = ((({ U with heap := s₂.heap, slotsUsed := s₂.slotsUsed } : State).setVm s₂.vm).setTop g).pushFrame (.throwing q) := by
      refine e3.trans ?_
      rw [hf₂, State.calling_eq h.top, State.setFrames_setFrames, State.pushFrame, State.frames_setTop _ hr', State.setTop_of_frames _ hr', State.setFrames_setFrames, hr]
      rfl
    have hsame : U.sameButNew ({ U with heap := s₂.heap, slotsUsed := s₂.slotsUsed } : State) L mc ms := by
      refine ⟨?_, q2, q3, q4, q5, q6⟩
      obtain ⟨t, ht, -⟩ := State.frames_cons hr
      show ({ U with heap := s₂.heap, slotsUsed := s₂.slotsUsed } : State) = { U.setFrames U.frames with heap := s₂.heap, slotsUsed := s₂.slotsUsed }
      rw [State.setFrames_self ht]
    subst hg
    refine Or.inr ⟨q, ⟨(({ U with heap := s₂.heap, slotsUsed := s₂.slotsUsed } : State).setVm s₂.vm), Ls ++ L, c0 + mc, s0 + ms⟩,
      ⟨X.admits, X.cas, X.clock, X.frames, X.room, X.hears, X.method, X.code, (X.here.setHeapUsed s₂.heap s₂.slotsUsed).setVm hW'.alike, X.tail, State.WarmedH.trans X.warmed hW', X.limits, X.bytes, X.same.trans (hsame.setVm s.vm)⟩,
      ⟨g, mk, s₂, L, E, ce, rfl, rfl, hx, hce, hcv, hcl, rfl, hL, rfl, rfl⟩, ?_⟩
    show Steps p.tables e below _ (((({ U with heap := s₂.heap, slotsUsed := s₂.slotsUsed } : State).setVm s₂.vm).setTop g).pushFrame (.throwing q))
    rw [← hs₂]
    exact hsteps
end Payer
section Calls
variable {p : Program} {l : Launch} {e : Env} {R : Room} {s : State} {m : MethodId} {args : Array Value} {below : List Frame} {meth : Method} {c : Code} {T : State} {locs : List Loc} {cells slots : Nat}
theorem vx_callV (X : Stand p l e R s m args below meth c T locs cells slots) (hexec : p.tables.exec = Jvm.exec) {own C : String} {index : Nat} {y : MethodName} {bytes : ByteArray} {maxL : Nat} {ret : Option FieldType}
    (hown : s.vm.findClass own = some m.cls) (hlink : (Cond.methodLink own index y).before args s = true) (hinst : (Cond.instanceMethod y).before args s = true) (hsel : (Cond.selects C y y).before args s = true)
    (hcode : (Cond.code y bytes maxL ret).before args s = true) (hy : y.cls ≠ "java/lang/invoke/MethodHandle" ∧ y.cls ≠ "java/lang/invoke/VarHandle")
    {W9 : Nat} {Pre : Pt → Array Value → Prop} {Post : Pt → Array Value → Option Value → Pt → Prop} {PostX : Pt → Array Value → Addr → Pt → Prop} (hK : vx_Back l R p e below s args y 3 W9 Pre Post PostX)
    {b : Addr} {cellB : Cell} (hcell : T.heap[b]? = some cellB) (hobj : cellB.vm.isStatics = false) (hcls : s.vm.findClass C = some cellB.cls)
    {g : JFrame} (hg : g.method = m) (hsize : g.locals.size = c.maxLocals) {argsL rest : List Value} (hlen : ∀ sig, parseMethodDescriptor y.desc = some sig → argsL.length = sig.parameters.length)
    (hstack : g.stack = argsL.reverse ++ .ref b :: rest) (hW : 2 * g.monitorRoom + (rest.map fun v => v.category).sum ≤ W9) (hdg : decode c.code g.pc = .ok (.invokevirtual index, 3))
    (hpre : ∀ vm₁, s.WarmedH vm₁ → Pre ⟨T.setVm vm₁, locs, cells, slots⟩ (Value.ref b :: argsL).toArray) :
    (∃ (v : Option Value) (vm₁ : Vm) (B : Pt), s.WarmedH vm₁ ∧ Stand p l e R s m args below meth c B.U B.locs B.cells B.slots ∧ Post ⟨T.setVm vm₁, locs, cells, slots⟩ (Value.ref b :: argsL).toArray v B ∧
      ∀ target, Steps p.tables e below (B.U.setTop { g with pc := g.pc + 3, stack := v.toList ++ rest }) target → Steps p.tables e below (T.setTop g) target) ∨
    (∃ (q : Addr) (vm₁ : Vm) (B : Pt), s.WarmedH vm₁ ∧ Stand p l e R s m args below meth c B.U B.locs B.cells B.slots ∧ PostX ⟨T.setVm vm₁, locs, cells, slots⟩ (Value.ref b :: argsL).toArray q B ∧
      Steps p.tables e below (T.setTop g) ((B.U.setTop { g with stack := rest }).pushFrame (.throwing q))) := by
  obtain ⟨mk, methM, hnamed, hmethM, hstM, habM⟩ := Cond.instanceMethod_spec hinst
  obtain ⟨methM', cM, hmethM', -, -, -, -, -, -, hsigM⟩ := Cond.code_spec hnamed hcode
  cases hmethM.symm.trans hmethM'
  obtain ⟨c2, r2, m2, q1, q2, q3, q4, kP, hkP, hkPi⟩ := Cond.selects_spec hsel
  cases hcls.symm.trans q1
  cases (State.methodFound?_of_named hnamed hy).symm.trans q2
  cases hnamed.symm.trans q3
  have hselP : selectMethod e.platform s.vm cellB.cls mk = .method mk := by rw [Launch.admits_selectMethod X.admits]; exact q4
  obtain ⟨vm₁, X₁, hstep₁⟩ := X.invokevirtual hexec hown hlink hnamed hmethM hstM hkP hkPi hy (a := b) (cell := cellB) hcell
    (fun z h => by rw [h] at hobj; cases hobj) hselP hmethM habM hkP hkPi (g := g) hg (argsL := argsL) (rest := rest) (hlen _ hsigM) hstack hdg
  rcases hK m meth c ⟨T.setVm vm₁, locs, cells, slots⟩ { g with stack := rest } (.invokevirtual index) mk (Value.ref b :: argsL).toArray X₁ hg hsize hdg hW (X₁.named hnamed) (hpre vm₁ X₁.warmed) with ⟨v, B, X', hpost, hsteps⟩ | ⟨q, B, X', hpost, hsteps⟩
  · exact Or.inl ⟨v, vm₁, B, X₁.warmed, X', hpost, fun target h => hstep₁ _ fun acts => by rw [doInvoke_state]; exact hsteps.trans h⟩
  · exact Or.inr ⟨q, vm₁, B, X₁.warmed, X', hpost, hstep₁ _ fun acts => by rw [doInvoke_state]; exact hsteps⟩
theorem vx_callS (X : Stand p l e R s m args below meth c T locs cells slots) (hexec : p.tables.exec = Jvm.exec) {own : String} {index : Nat} {y : MethodName} {bytes : ByteArray} {maxL : Nat} {ret : Option FieldType}
    (hown : s.vm.findClass own = some m.cls) (hlink : (Cond.methodLink own index y).before args s = true) (hstat : (Cond.static y).before args s = true) (hinit : (Cond.initialized y.cls).before args s = true)
    (hcode : (Cond.code y bytes maxL ret).before args s = true) (hy : y.cls ≠ "java/lang/invoke/MethodHandle" ∧ y.cls ≠ "java/lang/invoke/VarHandle")
    {W9 : Nat} {Pre : Pt → Array Value → Prop} {Post : Pt → Array Value → Option Value → Pt → Prop} {PostX : Pt → Array Value → Addr → Pt → Prop} (hK : vx_Back l R p e below s args y 3 W9 Pre Post PostX)
    {g : JFrame} (hg : g.method = m) (hsize : g.locals.size = c.maxLocals) {argsL rest : List Value} (hlen : ∀ sig, parseMethodDescriptor y.desc = some sig → argsL.length = sig.parameters.length)
    (hstack : g.stack = argsL.reverse ++ rest) (hW : 2 * g.monitorRoom + (rest.map fun v => v.category).sum ≤ W9) (hdg : decode c.code g.pc = .ok (.invokestatic index, 3))
    (hpre : ∀ vm₁, s.WarmedH vm₁ → Pre ⟨T.setVm vm₁, locs, cells, slots⟩ argsL.toArray) :
    (∃ (v : Option Value) (vm₁ : Vm) (B : Pt), s.WarmedH vm₁ ∧ Stand p l e R s m args below meth c B.U B.locs B.cells B.slots ∧ Post ⟨T.setVm vm₁, locs, cells, slots⟩ argsL.toArray v B ∧
      ∀ target, Steps p.tables e below (B.U.setTop { g with pc := g.pc + 3, stack := v.toList ++ rest }) target → Steps p.tables e below (T.setTop g) target) ∨
    (∃ (q : Addr) (vm₁ : Vm) (B : Pt), s.WarmedH vm₁ ∧ Stand p l e R s m args below meth c B.U B.locs B.cells B.slots ∧ PostX ⟨T.setVm vm₁, locs, cells, slots⟩ argsL.toArray q B ∧
      Steps p.tables e below (T.setTop g) ((B.U.setTop { g with stack := rest }).pushFrame (.throwing q))) := by
  obtain ⟨mk, hnamed⟩ := Cond.code_named hcode
  obtain ⟨methM, cM, hmethM, -, -, -, -, -, -, hsigM⟩ := Cond.code_spec hnamed hcode
  have hstatic : methM.isStatic = true := Cond.static_spec hnamed hmethM hstat
  obtain ⟨kP, hkP, -⟩ := className_of_methodNamed hnamed
  have hinitP : kP.init = .initialized := Cond.initialized_spec (findClass_of_methodNamed hnamed) hkP hinit
  obtain ⟨vm₁, X₁, hstep₁⟩ := X.invokestatic hexec hown hlink hnamed hmethM hstatic hkP hinitP hy (g := g) hg (argsL := argsL) (rest := rest) (hlen _ hsigM) hstack hdg
  rcases hK m meth c ⟨T.setVm vm₁, locs, cells, slots⟩ { g with stack := rest } (.invokestatic index) mk argsL.toArray X₁ hg hsize hdg hW (X₁.named hnamed) (hpre vm₁ X₁.warmed) with ⟨v, B, X', hpost, hsteps⟩ | ⟨q, B, X', hpost, hsteps⟩
  · exact Or.inl ⟨v, vm₁, B, X₁.warmed, X', hpost, fun target h => hstep₁ _ fun acts => by rw [doInvoke_state]; exact hsteps.trans h⟩
  · exact Or.inr ⟨q, vm₁, B, X₁.warmed, X', hpost, hstep₁ _ fun acts => by rw [doInvoke_state]; exact hsteps⟩
end Calls
theorem vx_cls {s : State} {T : State} {vm₁ : Vm} {E : String} {k : ClassId} (hW : s.WarmedH vm₁) (h : (T.setVm vm₁).vm.findClass E = some k) : s.vm.findClass E = some k := by
  have h1 : vm₁.findClass E = some k := h
  rw [hW.alike.findClass] at h1
  exact h1
/-- the method's frame g, with q thrown over it -/
def vx_W (p : Program) (l : Launch) (e : Env) (R : Room) (s : State) (m : MethodId) (args : Array Value) (below : List Frame) (meth : Method) (c : Code) (H : Heap) (locs : List Loc) (cells slots : Nat) (Q : State → Prop) (g : JFrame) (q : Addr) : Prop :=
  ∀ T : State, T.heap = H → Stand p l e R s m args below meth c T locs cells slots → ∃ t, Steps p.tables e below ((T.setTop g).pushFrame (.throwing q)) t ∧ Q t
def vx_Run (p : Program) (l : Launch) (e : Env) (R : Room) (s : State) (m : MethodId) (args : Array Value) (below : List Frame) (meth : Method) (c : Code) (H : Heap) (locs : List Loc) (cells slots mc ms : Nat) (g : JFrame) (rest : List Value) (Qa : State → Outcome → State → Prop) (XC : String → State → State → Prop) (free : Addr → Prop) : Prop :=
  ∀ T : State, T.heap = H → Stand p l e R s m args below meth c T locs cells slots →
    (∃ (v : Option Value) (st₀ t T' : State) (L : List Loc), st₀.heap = H ∧ Stand p l e R s m args below meth c T' (locs ++ L) (cells + mc) (slots + ms) ∧ (∀ q ∈ L, free q.base) ∧ T'.heap = t.heap ∧ T'.vm = t.vm ∧ Qa st₀ (.returned v) t ∧
      Goes p e below T g T' { g with pc := g.pc + 3, stack := v.toList ++ rest }) ∨
    (∃ (q : Addr) (st₀ t T' : State) (L : List Loc) (E : String) (ce : Cell), st₀.heap = H ∧ Stand p l e R s m args below meth c T' (locs ++ L) (cells + mc) (slots + ms) ∧ (∀ z ∈ L, free z.base) ∧ T'.heap = t.heap ∧ T'.vm = t.vm ∧ XC E st₀ t ∧ t.heap[q]? = some ce ∧ ce.vm = .none ∧ s.vm.findClass E = some ce.cls ∧
      Steps p.tables e below (T.setTop g) ((T'.setTop { g with stack := rest }).pushFrame (.throwing q)))
def vx_X {S : Type} (px : S → Prop) (B : String → S → State → Prop) (A : Nat → Prop) : String → State → State → Prop := fun E st t => ∃ u : S, px u ∧ B E u t ∧ va_F A st t
section Runs
variable {p : Program} {l : Launch} {e : Env} {R : Room} {s : State} {m : MethodId} {args : Array Value} {below : List Frame} {meth : Method} {c : Code} {H : Heap} {locs : List Loc} {cells slots : Nat}
variable {y : MethodName} {bytes cc : ByteArray} {maxL nL mc ms n index : Nat} {ret : Option FieldType} {ws : List Cond} {rm : Room} {Pc : Array Value → State → Prop} {Qc : Array Value → State → Outcome → State → Prop} {XC : String → State → State → Prop} {free : Addr → Prop} {Ts : List Cond} {own C : String} {b : Addr} {As rest : List Value} {g : JFrame}
theorem vx_callBack (cb : CallB R s args own index y bytes maxL ret ws rm mc ms n) (hM : vx_Met l y ws rm Pc Qc XC mc ms free) (hbl : FrameBlind Pc) : vx_Back l R p e below s args y 3 8 (PreOf R mc ms Pc) (PostOf Qc mc ms free) (vx_Post XC mc ms free) := by
  obtain ⟨hrc, hrs, hfr, hlo, hws, hcw, -, hini, -⟩ := cb
  exact vx_back (bytes := bytes) (maxL := maxL) (ret := ret) hM hbl hrc hrs hfr hlo hws hcw (fun a' U hW => word_at hW (Or.inl (by first | rfl | simp [Cond.onTables, Cond.keeps, Cond.steady])) hini)
theorem vx_runV (S : CallFix p m c cc nL s args Ts own) (hM : vx_Met l y ws rm Pc Qc XC mc ms free) (cw : CallW R s args own C index y bytes maxL ret ws rm mc ms n) (hp : PreV s H C b Pc As)
    (hg : g.method = m) (hn : As.length = n) (hsize : g.locals.size = nL) (hstack : g.stack = As.reverse ++ .ref b :: rest) (hW : 2 * g.monitorRoom + (rest.map fun v => v.category).sum ≤ 8) (hdg : decode cc g.pc = .ok (.invokevirtual index, 3)) (hf : cells + mc ≤ R.cells ∧ slots + ms ≤ R.slots) :
    vx_Run p l e R s m args below meth c H locs cells slots mc ms g rest (Qc (Value.ref b :: As).toArray) XC free := by
  have hK : vx_Back l R p e below s args y 3 8 (PreOf R mc ms Pc) (PostOf Qc mc ms free) (vx_Post XC mc ms free) := vx_callBack cw.1 hM hp.1
  obtain ⟨⟨-, -, -, -, -, -, hcode, -, hy, hlen, hl⟩, hin, hse⟩ := cw
  obtain ⟨hx, hb, hml, ho, -⟩ := S
  obtain ⟨-, ⟨cellB, hcB, hoB, hclB⟩, hPc⟩ := hp
  intro T hT X
  rcases vx_callV X hx (C := C) (bytes := bytes) (maxL := maxL) (ret := ret) ho hl hin hse hcode hy hK (by rw [hT]; exact hcB) hoB hclB hg (hsize.trans hml.symm) (argsL := As) (rest := rest) (fun sig h => hn.trans (hlen sig h)) hstack hW (by rw [hb]; exact hdg)
    (fun vm₁ hW₁ => ⟨hf.1, hf.2, hPc (T.setVm vm₁) hT hW₁⟩) with ⟨v, vm₁, ⟨U', l2, c2, s2⟩, hW₁, X', ⟨g', mk, t, L, e1, e2, hq, h1, hL, h2, h3⟩, st⟩ | ⟨q, vm₁, ⟨U', l2, c2, s2⟩, hW₁, X', ⟨g', mk, t, L, E, ce, e1, e2, hq, hce, hcv, hcl, h1, hL, h2, h3⟩, st⟩
  · dsimp only [Pt.U, Pt.locs, Pt.cells, Pt.slots] at X' e1 e2 h1 h2 h3 st
    subst h1; subst h2; subst h3
    exact Or.inl ⟨v, (T.setVm vm₁).calling g' mk (Value.ref b :: As).toArray, t, U', L, hT, X', hL, e1, e2, hq, st⟩
  · dsimp only [Pt.U, Pt.locs, Pt.cells, Pt.slots] at X' e1 e2 h1 h2 h3 st hcl
    subst h1; subst h2; subst h3
    exact Or.inr ⟨q, (T.setVm vm₁).calling g' mk (Value.ref b :: As).toArray, t, U', L, E, ce, hT, X', hL, e1, e2, hq, hce, hcv, vx_cls hW₁ hcl, st⟩
theorem vx_runS (S : CallFix p m c cc nL s args Ts own) (hM : vx_Met l y ws rm Pc Qc XC mc ms free) (cw : CallB R s args own index y bytes maxL ret ws rm mc ms n ∧ (Cond.static y).before args s = true) (hp : PreS s H Pc As)
    (hg : g.method = m) (hn : As.length = n) (hsize : g.locals.size = nL) (hstack : g.stack = As.reverse ++ rest) (hW : 2 * g.monitorRoom + (rest.map fun v => v.category).sum ≤ 8) (hdg : decode cc g.pc = .ok (.invokestatic index, 3)) (hf : cells + mc ≤ R.cells ∧ slots + ms ≤ R.slots) :
    vx_Run p l e R s m args below meth c H locs cells slots mc ms g rest (Qc As.toArray) XC free := by
  have hK : vx_Back l R p e below s args y 3 8 (PreOf R mc ms Pc) (PostOf Qc mc ms free) (vx_Post XC mc ms free) := vx_callBack cw.1 hM hp.1
  obtain ⟨⟨-, -, -, -, -, -, hcode, hini, hy, hlen, hl⟩, hstt⟩ := cw
  obtain ⟨hx, hb, hml, ho, -⟩ := S
  intro T hT X
  rcases vx_callS X hx (bytes := bytes) (maxL := maxL) (ret := ret) ho hl hstt hini hcode hy hK hg (hsize.trans hml.symm) (argsL := As) (rest := rest) (fun sig h => hn.trans (hlen sig h)) hstack hW (by rw [hb]; exact hdg)
    (fun vm₁ hW₁ => ⟨hf.1, hf.2, hp.2 (T.setVm vm₁) hT hW₁⟩) with ⟨v, vm₁, ⟨U', l2, c2, s2⟩, hW₁, X', ⟨g', mk, t, L, e1, e2, hq, h1, hL, h2, h3⟩, st⟩ | ⟨q, vm₁, ⟨U', l2, c2, s2⟩, hW₁, X', ⟨g', mk, t, L, E, ce, e1, e2, hq, hce, hcv, hcl, h1, hL, h2, h3⟩, st⟩
  · dsimp only [Pt.U, Pt.locs, Pt.cells, Pt.slots] at X' e1 e2 h1 h2 h3 st
    subst h1; subst h2; subst h3
    exact Or.inl ⟨v, (T.setVm vm₁).calling g' mk As.toArray, t, U', L, hT, X', hL, e1, e2, hq, st⟩
  · dsimp only [Pt.U, Pt.locs, Pt.cells, Pt.slots] at X' e1 e2 h1 h2 h3 st hcl
    subst h1; subst h2; subst h3
    exact Or.inr ⟨q, (T.setVm vm₁).calling g' mk As.toArray, t, U', L, E, ce, hT, X', hL, e1, e2, hq, hce, hcv, vx_cls hW₁ hcl, st⟩
end Runs
section Rows
variable {p : Program} {l : Launch} {e : Env} {R : Room} {s : State} {m : MethodId} {args : Array Value} {below : List Frame} {meth : Method} {c : Code} {H : Heap} {locs : List Loc} {cells slots : Nat} {Q : State → Prop}
variable {mc ms : Nat} {free : Addr → Prop} {A0 A1 : Nat → Prop} {H0 : Heap} {a : Array Value} {pc : Nat} {ls : Array Slot} {st0 rest : List Value}
theorem vx_keep {st₀ t T' : State} {L : List Loc} (h0 : st₀.heap = H) (e1 : T'.heap = t.heap) (hS : va_S A0 H0 H locs) (hA : ∀ q, q < H.size → A1 q → A0 q) (hf : ∀ q, free q → A0 q) (hL : ∀ q ∈ L, free q.base) (hF : va_F A1 st₀ t) :
    H.size ≤ T'.heap.size ∧ (∀ q : Nat, q < H.size → ¬ A1 q → T'.heap[q]? = H[q]?) ∧ va_S A0 H0 T'.heap (locs ++ L) := by
  obtain ⟨hz, hk⟩ := hF
  rw [h0] at hz hk
  exact ⟨by rw [e1]; exact hz, fun q h1 h2 => by rw [e1]; exact hk q h1 h2,
    ⟨Nat.le_trans hS.1 (by rw [e1]; exact hz), fun q h1 h2 => by rw [e1, hk q (Nat.lt_of_lt_of_le h1 hS.1) (fun z => h2 (hA q (Nat.lt_of_lt_of_le h1 hS.1) z))]; exact hS.2.1 q h1 h2, fun q hq => by
      rcases List.mem_append.mp hq with h | h
      · exact hS.2.2 q h
      · exact hf _ (hL q h)⟩⟩
theorem vx_calli {S SX : Type} {post : Int32 → S → Prop} {px : SX → Prop} {B : S → State → Prop} {BX : String → SX → State → Prop} {AX : Nat → Prop} (hr : vx_Run p l e R s m args below meth c H locs cells slots mc ms (F0 m pc ls st0) rest (va_Qi post B A1 a) (vx_X px BX AX) free) (hS : va_S A0 H0 H locs) (hA : ∀ q, q < H.size → A1 q → A0 q) (hf : ∀ q, free q → A0 q) (hAX : ∀ q, q < H.size → AX q → A0 q)
    (kx : ∀ (E : String) (ce : Cell) (q9 : Addr) (u : SX) (t : State) (H1 : Heap) (locs1 : List Loc), t.heap = H1 → s.vm.Alike t.vm → px u → BX E u t → H.size ≤ H1.size → (∀ q : Nat, q < H.size → ¬ AX q → H1[q]? = H[q]?) → va_S A0 H0 H1 locs1 → H1[q9]? = some ce → ce.vm = .none → s.vm.findClass E = some ce.cls → vx_W p l e R s m args below meth c H1 locs1 (cells + mc) (slots + ms) Q (F0 m pc ls rest) q9)
    (kk : ∀ (r : Int32) (u : S) (t : State) (H1 : Heap) (locs1 : List Loc), t.heap = H1 → s.vm.Alike t.vm → post r u → B u t → H.size ≤ H1.size → (∀ q : Nat, q < H.size → ¬ A1 q → H1[q]? = H[q]?) → va_S A0 H0 H1 locs1 → W p l e R s m args below meth c H1 locs1 (cells + mc) (slots + ms) Q (F0 m (pc + 3) ls (.int r :: rest))) : W p l e R s m args below meth c H locs cells slots Q (F0 m pc ls st0) := by
  intro T hT X
  rcases hr T hT X with ⟨v, st₀, t, T', L, h0, X', hL, e1, e2, ⟨⟨r, u, hv, hp, hb⟩, hF⟩, st⟩ | ⟨q, st₀, t, T', L, E, ce, h0, X', hL, e1, e2, ⟨u, hp, hb, hF⟩, hce, hcv, hcl, st⟩
  · cases hv
    obtain ⟨k1, k2, k3⟩ := vx_keep h0 e1 hS hA hf hL hF
    obtain ⟨t2, a1, b1⟩ := kk r u t T'.heap (locs ++ L) e1.symm (by rw [← e2]; exact X'.warmed.alike) hp hb k1 k2 k3 T' rfl X'
    exact ⟨t2, st t2 a1, b1⟩
  · obtain ⟨k1, k2, k3⟩ := vx_keep h0 e1 hS hAX hf hL hF
    obtain ⟨t2, a1, b1⟩ := kx E ce q u t T'.heap (locs ++ L) e1.symm (by rw [← e2]; exact X'.warmed.alike) hp hb k1 k2 k3 (by rw [e1]; exact hce) hcv hcl T' rfl X'
    exact ⟨t2, st.trans a1, b1⟩
theorem vx_calll {S SX : Type} {post : Int64 → S → Prop} {px : SX → Prop} {B : S → State → Prop} {BX : String → SX → State → Prop} {AX : Nat → Prop} (hr : vx_Run p l e R s m args below meth c H locs cells slots mc ms (F0 m pc ls st0) rest (va_Ql post B A1 a) (vx_X px BX AX) free) (hS : va_S A0 H0 H locs) (hA : ∀ q, q < H.size → A1 q → A0 q) (hf : ∀ q, free q → A0 q) (hAX : ∀ q, q < H.size → AX q → A0 q)
    (kx : ∀ (E : String) (ce : Cell) (q9 : Addr) (u : SX) (t : State) (H1 : Heap) (locs1 : List Loc), t.heap = H1 → s.vm.Alike t.vm → px u → BX E u t → H.size ≤ H1.size → (∀ q : Nat, q < H.size → ¬ AX q → H1[q]? = H[q]?) → va_S A0 H0 H1 locs1 → H1[q9]? = some ce → ce.vm = .none → s.vm.findClass E = some ce.cls → vx_W p l e R s m args below meth c H1 locs1 (cells + mc) (slots + ms) Q (F0 m pc ls rest) q9)
    (kk : ∀ (r : Int64) (u : S) (t : State) (H1 : Heap) (locs1 : List Loc), t.heap = H1 → s.vm.Alike t.vm → post r u → B u t → H.size ≤ H1.size → (∀ q : Nat, q < H.size → ¬ A1 q → H1[q]? = H[q]?) → va_S A0 H0 H1 locs1 → W p l e R s m args below meth c H1 locs1 (cells + mc) (slots + ms) Q (F0 m (pc + 3) ls (.long r :: rest))) : W p l e R s m args below meth c H locs cells slots Q (F0 m pc ls st0) := by
  intro T hT X
  rcases hr T hT X with ⟨v, st₀, t, T', L, h0, X', hL, e1, e2, ⟨⟨r, u, hv, hp, hb⟩, hF⟩, st⟩ | ⟨q, st₀, t, T', L, E, ce, h0, X', hL, e1, e2, ⟨u, hp, hb, hF⟩, hce, hcv, hcl, st⟩
  · cases hv
    obtain ⟨k1, k2, k3⟩ := vx_keep h0 e1 hS hA hf hL hF
    obtain ⟨t2, a1, b1⟩ := kk r u t T'.heap (locs ++ L) e1.symm (by rw [← e2]; exact X'.warmed.alike) hp hb k1 k2 k3 T' rfl X'
    exact ⟨t2, st t2 a1, b1⟩
  · obtain ⟨k1, k2, k3⟩ := vx_keep h0 e1 hS hAX hf hL hF
    obtain ⟨t2, a1, b1⟩ := kx E ce q u t T'.heap (locs ++ L) e1.symm (by rw [← e2]; exact X'.warmed.alike) hp hb k1 k2 k3 (by rw [e1]; exact hce) hcv hcl T' rfl X'
    exact ⟨t2, st.trans a1, b1⟩
theorem vx_callf {S SX : Type} {post : UInt32 → S → Prop} {px : SX → Prop} {B : S → State → Prop} {BX : String → SX → State → Prop} {AX : Nat → Prop} (hr : vx_Run p l e R s m args below meth c H locs cells slots mc ms (F0 m pc ls st0) rest (va_Qf post B A1 a) (vx_X px BX AX) free) (hS : va_S A0 H0 H locs) (hA : ∀ q, q < H.size → A1 q → A0 q) (hf : ∀ q, free q → A0 q) (hAX : ∀ q, q < H.size → AX q → A0 q)
    (kx : ∀ (E : String) (ce : Cell) (q9 : Addr) (u : SX) (t : State) (H1 : Heap) (locs1 : List Loc), t.heap = H1 → s.vm.Alike t.vm → px u → BX E u t → H.size ≤ H1.size → (∀ q : Nat, q < H.size → ¬ AX q → H1[q]? = H[q]?) → va_S A0 H0 H1 locs1 → H1[q9]? = some ce → ce.vm = .none → s.vm.findClass E = some ce.cls → vx_W p l e R s m args below meth c H1 locs1 (cells + mc) (slots + ms) Q (F0 m pc ls rest) q9)
    (kk : ∀ (r : UInt32) (u : S) (t : State) (H1 : Heap) (locs1 : List Loc), t.heap = H1 → s.vm.Alike t.vm → post r u → B u t → H.size ≤ H1.size → (∀ q : Nat, q < H.size → ¬ A1 q → H1[q]? = H[q]?) → va_S A0 H0 H1 locs1 → W p l e R s m args below meth c H1 locs1 (cells + mc) (slots + ms) Q (F0 m (pc + 3) ls (.float r :: rest))) : W p l e R s m args below meth c H locs cells slots Q (F0 m pc ls st0) := by
  intro T hT X
  rcases hr T hT X with ⟨v, st₀, t, T', L, h0, X', hL, e1, e2, ⟨⟨r, u, hv, hp, hb⟩, hF⟩, st⟩ | ⟨q, st₀, t, T', L, E, ce, h0, X', hL, e1, e2, ⟨u, hp, hb, hF⟩, hce, hcv, hcl, st⟩
  · cases hv
    obtain ⟨k1, k2, k3⟩ := vx_keep h0 e1 hS hA hf hL hF
    obtain ⟨t2, a1, b1⟩ := kk r u t T'.heap (locs ++ L) e1.symm (by rw [← e2]; exact X'.warmed.alike) hp hb k1 k2 k3 T' rfl X'
    exact ⟨t2, st t2 a1, b1⟩
  · obtain ⟨k1, k2, k3⟩ := vx_keep h0 e1 hS hAX hf hL hF
    obtain ⟨t2, a1, b1⟩ := kx E ce q u t T'.heap (locs ++ L) e1.symm (by rw [← e2]; exact X'.warmed.alike) hp hb k1 k2 k3 (by rw [e1]; exact hce) hcv hcl T' rfl X'
    exact ⟨t2, st.trans a1, b1⟩
theorem vx_calld {S SX : Type} {post : UInt64 → S → Prop} {px : SX → Prop} {B : S → State → Prop} {BX : String → SX → State → Prop} {AX : Nat → Prop} (hr : vx_Run p l e R s m args below meth c H locs cells slots mc ms (F0 m pc ls st0) rest (va_Qd post B A1 a) (vx_X px BX AX) free) (hS : va_S A0 H0 H locs) (hA : ∀ q, q < H.size → A1 q → A0 q) (hf : ∀ q, free q → A0 q) (hAX : ∀ q, q < H.size → AX q → A0 q)
    (kx : ∀ (E : String) (ce : Cell) (q9 : Addr) (u : SX) (t : State) (H1 : Heap) (locs1 : List Loc), t.heap = H1 → s.vm.Alike t.vm → px u → BX E u t → H.size ≤ H1.size → (∀ q : Nat, q < H.size → ¬ AX q → H1[q]? = H[q]?) → va_S A0 H0 H1 locs1 → H1[q9]? = some ce → ce.vm = .none → s.vm.findClass E = some ce.cls → vx_W p l e R s m args below meth c H1 locs1 (cells + mc) (slots + ms) Q (F0 m pc ls rest) q9)
    (kk : ∀ (r : UInt64) (u : S) (t : State) (H1 : Heap) (locs1 : List Loc), t.heap = H1 → s.vm.Alike t.vm → post r u → B u t → H.size ≤ H1.size → (∀ q : Nat, q < H.size → ¬ A1 q → H1[q]? = H[q]?) → va_S A0 H0 H1 locs1 → W p l e R s m args below meth c H1 locs1 (cells + mc) (slots + ms) Q (F0 m (pc + 3) ls (.double r :: rest))) : W p l e R s m args below meth c H locs cells slots Q (F0 m pc ls st0) := by
  intro T hT X
  rcases hr T hT X with ⟨v, st₀, t, T', L, h0, X', hL, e1, e2, ⟨⟨r, u, hv, hp, hb⟩, hF⟩, st⟩ | ⟨q, st₀, t, T', L, E, ce, h0, X', hL, e1, e2, ⟨u, hp, hb, hF⟩, hce, hcv, hcl, st⟩
  · cases hv
    obtain ⟨k1, k2, k3⟩ := vx_keep h0 e1 hS hA hf hL hF
    obtain ⟨t2, a1, b1⟩ := kk r u t T'.heap (locs ++ L) e1.symm (by rw [← e2]; exact X'.warmed.alike) hp hb k1 k2 k3 T' rfl X'
    exact ⟨t2, st t2 a1, b1⟩
  · obtain ⟨k1, k2, k3⟩ := vx_keep h0 e1 hS hAX hf hL hF
    obtain ⟨t2, a1, b1⟩ := kx E ce q u t T'.heap (locs ++ L) e1.symm (by rw [← e2]; exact X'.warmed.alike) hp hb k1 k2 k3 (by rw [e1]; exact hce) hcv hcl T' rfl X'
    exact ⟨t2, st.trans a1, b1⟩
theorem vx_callv {S SX : Type} {post : S → Prop} {px : SX → Prop} {B : S → State → Prop} {BX : String → SX → State → Prop} {AX : Nat → Prop} (hr : vx_Run p l e R s m args below meth c H locs cells slots mc ms (F0 m pc ls st0) rest (va_Qv post B A1 a) (vx_X px BX AX) free) (hS : va_S A0 H0 H locs) (hA : ∀ q, q < H.size → A1 q → A0 q) (hf : ∀ q, free q → A0 q) (hAX : ∀ q, q < H.size → AX q → A0 q)
    (kx : ∀ (E : String) (ce : Cell) (q9 : Addr) (u : SX) (t : State) (H1 : Heap) (locs1 : List Loc), t.heap = H1 → s.vm.Alike t.vm → px u → BX E u t → H.size ≤ H1.size → (∀ q : Nat, q < H.size → ¬ AX q → H1[q]? = H[q]?) → va_S A0 H0 H1 locs1 → H1[q9]? = some ce → ce.vm = .none → s.vm.findClass E = some ce.cls → vx_W p l e R s m args below meth c H1 locs1 (cells + mc) (slots + ms) Q (F0 m pc ls rest) q9)
    (kk : ∀ (u : S) (t : State) (H1 : Heap) (locs1 : List Loc), t.heap = H1 → s.vm.Alike t.vm → post u → B u t → H.size ≤ H1.size → (∀ q : Nat, q < H.size → ¬ A1 q → H1[q]? = H[q]?) → va_S A0 H0 H1 locs1 → W p l e R s m args below meth c H1 locs1 (cells + mc) (slots + ms) Q (F0 m (pc + 3) ls (rest))) : W p l e R s m args below meth c H locs cells slots Q (F0 m pc ls st0) := by
  intro T hT X
  rcases hr T hT X with ⟨v, st₀, t, T', L, h0, X', hL, e1, e2, ⟨⟨u, hv, hp, hb⟩, hF⟩, st⟩ | ⟨q, st₀, t, T', L, E, ce, h0, X', hL, e1, e2, ⟨u, hp, hb, hF⟩, hce, hcv, hcl, st⟩
  · cases hv
    obtain ⟨k1, k2, k3⟩ := vx_keep h0 e1 hS hA hf hL hF
    obtain ⟨t2, a1, b1⟩ := kk u t T'.heap (locs ++ L) e1.symm (by rw [← e2]; exact X'.warmed.alike) hp hb k1 k2 k3 T' rfl X'
    exact ⟨t2, st t2 a1, b1⟩
  · obtain ⟨k1, k2, k3⟩ := vx_keep h0 e1 hS hAX hf hL hF
    obtain ⟨t2, a1, b1⟩ := kx E ce q u t T'.heap (locs ++ L) e1.symm (by rw [← e2]; exact X'.warmed.alike) hp hb k1 k2 k3 (by rw [e1]; exact hce) hcv hcl T' rfl X'
    exact ⟨t2, st.trans a1, b1⟩
end Rows
section Ends
variable {p : Program} {l : Launch} {e : Env} {R : Room} {s : State} {m : MethodId} {args : Array Value} {below : List Frame} {meth : Method} {c : Code} {H : Heap} {locs : List Loc} {cells slots : Nat} {Q : State → Prop}
variable {mc ms : Nat} {free : Addr → Prop} {A0 A1 : Nat → Prop} {H0 : Heap} {a : Array Value} {ls : Array Slot} {st0 rest : List Value}
variable {Qc : Array Value → State → Outcome → State → Prop} {XC : String → State → State → Prop}
/-- what a body that may throw owes at its end -/
def vx_MQ (below : List Frame) (Qc : Array Value → State → Outcome → State → Prop) (XC : String → State → State → Prop) (a : Array Value) (s : State) (mc ms : Nat) (free : Addr → Prop) : State → Prop := fun t =>
  ∃ o, t.status = .running ∧ Ended t below o ∧ vx_Q Qc XC mc ms free a s o t
theorem vx_ret {g : JFrame} {mc ms : Nat} (k : W p l e R s m args below meth c H locs cells slots (MQ below Qc args s mc ms free) g) : W p l e R s m args below meth c H locs cells slots (vx_MQ below Qc XC args s mc ms free) g := by
  intro T hT X
  obtain ⟨t, a1, o, b1, b2, b3, b4⟩ := k T hT X
  exact ⟨t, a1, o, b1, b2, Or.inl ⟨b3, b4⟩⟩
/-- not caught here: it goes on to the caller -/
theorem vx_widen {g : JFrame} {q : Addr} {k n : Nat} (h1 : cells ≤ k) (h2 : slots ≤ n) (kk : vx_W p l e R s m args below meth c H locs k n Q g q) : vx_W p l e R s m args below meth c H locs cells slots Q g q := fun T hT X => kk T hT (stand_widen X h1 h2)
theorem vx_out {pc : Nat} {E : String} {ce : Cell} {q : Addr} {mc ms : Nat} (hout : ∀ x ∈ c.exceptionTable.toList, covers x pc = false) (hlocks : meth.locks = false) (hcell : H[q]? = some ce) (hv : ce.vm = .none) (hcl : s.vm.findClass E = some ce.cls)
    (hx : ∀ t : State, t.heap = H → s.vm.Alike t.vm → XC E s t) (hf : ∀ z ∈ locs, free z.base) (hc : cells ≤ mc) (hs : slots ≤ ms) :
    vx_W p l e R s m args below meth c H locs cells slots (vx_MQ below Qc XC args s mc ms free) (F0 m pc ls rest) q := by
  intro T hT X
  obtain ⟨st1, hrun, hend, hW, hsm⟩ := X.leaveThrown q (g := F0 m pc ls rest) rfl rfl rfl hout hlocks
  have hcell9 : (T.setFrames (.throwing q :: below)).heap[q]? = some ce := by
    show T.heap[q]? = some ce
    rw [hT]; exact hcell
  exact ⟨_, st1, .threw q, hrun, hend, Or.inr ⟨q, rfl, E, ce, locs, hx _ hT hW.alike, hcell9, hv, hcl, hW, hsm.mono hc hs, hf⟩⟩
theorem vx_frame {U : State} {k n : Nat} (h : s.sameButNew ({ U with vm := s.vm } : State) locs k n) : s.heap.size ≤ U.heap.size ∧ ∀ q : Nat, q < s.heap.size → (∀ z ∈ locs, z.base ≠ q) → U.heap[q]? = s.heap[q]? := by
  obtain ⟨-, h2, -, -, -, h6⟩ := h
  refine ⟨h2, fun q hq hz => ?_⟩
  obtain ⟨c9, e1, e2, e3, e4⟩ := h6 q _ (Array.getElem?_eq_getElem hq)
  have hs : c9.slots = (s.heap[q]).slots := Array.ext_getElem? fun i => e4 i fun hm => hz _ hm rfl
  have h9 : c9 = s.heap[q] := by
    rw [hs] at e2
    exact e2
  have e5 : U.heap[q]? = some c9 := e1
  rw [e5, h9, Array.getElem?_eq_getElem hq]
/-- the words of a throw but the four that speak of the heap -/
def vx_no (w : Cond) : Bool := decide (w ≠ .isRef (.static Bundle.tN "UNASSIGNED_STACK" Bundle.steD)) && decide (w ≠ .isRef (.static Bundle.tN "SUPPRESSED_SENTINEL" Bundle.listD)) && decide (w ≠ .laysStatic Bundle.tN "UNASSIGNED_STACK" Bundle.steD) && decide (w ≠ .laysStatic Bundle.tN "SUPPRESSED_SENTINEL" Bundle.listD)
def vx_at0 (own : String) (ic : Nat) (X : String) (names : List String) : List Cond := (Bundle.ownAtoms0 own ic X names).filter vx_no
def vx_atS (own : String) (ic : Nat) (X : String) (names : List String) : List Cond := (Bundle.ownAtoms own ic X names).filter vx_no
/-- a word that the tables alone decide, or a good one -/
def vx_ot (w : Cond) : Bool := w.onTables || goodWord w
theorem vx_ot_at {args a' : Array Value} {s U : State} {w : Cond} (hW : s.WarmedH U.vm) (hvm : s.vm = U.vm) (hg : vx_ot w = true) (h : w.before args s = true) : w.before a' U = true := by
  simp only [vx_ot, Bool.or_eq_true] at hg
  rcases hg with hg | hg
  · exact va_tabs hg hvm h
  · exact word_at hW (good_of_word hg) h
/-- a list's words: the good ones out of the method's own list, the others by premises of their own -/
theorem vx_hat {args : Array Value} {s : State} {L B : List Cond} (h1 : ∀ w ∈ L.filter goodWord, w.before args s = true) (h2 : ∀ w ∈ L.filter (fun w => !goodWord w), w ∈ B) (h3 : ∀ w ∈ B, w.before args s = true) : ∀ w ∈ L, w.before args s = true := by
  intro w hw
  by_cases g : goodWord w = true
  · exact h1 w (List.mem_filter.mpr ⟨hw, g⟩)
  · refine h3 w (h2 w (List.mem_filter.mpr ⟨hw, ?_⟩))
    show (!goodWord w) = true
    cases hgw : goodWord w
    · rfl
    · exact absurd hgw g
theorem vx_c {args : Array Value} {s : State} {w : Cond} {B : List Cond} (h : w.before args s = true) (t : ∀ w ∈ B, w.before args s = true) : ∀ w' ∈ w :: B, w'.before args s = true := fun w' h' => (List.mem_cons.mp h').elim (fun e => by rw [e]; exact h) (t w')
theorem vx_n {args : Array Value} {s : State} : ∀ w ∈ ([] : List Cond), w.before args s = true := fun _ h => nomatch h
theorem vx_own {args : Array Value} {s : State} {L : List Cond} (h1 : ∀ w ∈ L.filter vx_no, w.before args s = true)
    (hU : (Cond.isRef (.static Bundle.tN "UNASSIGNED_STACK" Bundle.steD)).before args s = true) (hN : (Cond.isRef (.static Bundle.tN "SUPPRESSED_SENTINEL" Bundle.listD)).before args s = true)
    (lU : (Cond.laysStatic Bundle.tN "UNASSIGNED_STACK" Bundle.steD).before args s = true) (lN : (Cond.laysStatic Bundle.tN "SUPPRESSED_SENTINEL" Bundle.listD).before args s = true) : ∀ w ∈ L, w.before args s = true := by
  intro w hw
  by_cases e1 : w = .isRef (.static Bundle.tN "UNASSIGNED_STACK" Bundle.steD)
  · rw [e1]; exact hU
  · by_cases e2 : w = .isRef (.static Bundle.tN "SUPPRESSED_SENTINEL" Bundle.listD)
    · rw [e2]; exact hN
    · by_cases e3 : w = .laysStatic Bundle.tN "UNASSIGNED_STACK" Bundle.steD
      · rw [e3]; exact lU
      · by_cases e4 : w = .laysStatic Bundle.tN "SUPPRESSED_SENTINEL" Bundle.listD
        · rw [e4]; exact lN
        · exact h1 w (List.mem_filter.mpr ⟨hw, by unfold vx_no; rw [decide_eq_true e1, decide_eq_true e2, decide_eq_true e3, decide_eq_true e4]; rfl⟩)
/-- where a static field lies, its class's statics cell in H -/
def vx_L (C n d : String) (A : Nat → Prop) (U : State) (H : Heap) : Prop := ∃ (c : ClassId) (k : Class) (i : Nat) (f : Field) (a : Nat) (cell : Cell), U.vm.findClass C = some c ∧ U.fieldFound? C n d = some (c, k, i, f) ∧ f.isStatic = true ∧ k.statics = some a ∧ H[a]? = some cell ∧ cell.vm.isStatics = true ∧ cell.cls = c ∧ f.slot < cell.slots.size ∧ k.staticTypes[f.slot]? = some f.type ∧ ¬ A a
theorem vx_L.moved {C n d : String} {A : Nat → Prop} {u U : State} {H : Heap} (hvm : u.vm.Alike U.vm) (h : vx_L C n d A u H) : vx_L C n d A U H := by
  obtain ⟨c, k, i, f, a, cell, h1, h2, h3, h4, h5, h6, h7, h8, h9, h10⟩ := h
  obtain ⟨k', hi', he⟩ := State.fieldFound?_setVm hvm h2
  exact ⟨c, k', i, f, a, cell, by rw [hvm.findClass]; exact h1, hi', h3, by rw [he]; exact h4, h5, h6, h7, h8, by rw [he]; exact h9, h10⟩
theorem vx_L.kept {C n d : String} {A : Nat → Prop} {U : State} {H H1 : Heap} (h : vx_L C n d A U H) (hq : ∀ a : Nat, a < H.size → ¬ A a → H1[a]? = H[a]?) : vx_L C n d A U H1 := by
  obtain ⟨c, k, i, f, a, cell, h1, h2, h3, h4, h5, h6, h7, h8, h9, h10⟩ := h
  exact ⟨c, k, i, f, a, cell, h1, h2, h3, h4, by rw [hq a (Array.getElem?_eq_some_iff.mp h5).1 h10]; exact h5, h6, h7, h8, h9, h10⟩
theorem vx_L.narrow {C n d : String} {A B : Nat → Prop} {U : State} {H : Heap} (h : vx_L C n d A U H) (hAB : ∀ q, B q → A q) : vx_L C n d B U H := by
  obtain ⟨c, k, i, f, a, cell, h1, h2, h3, h4, h5, h6, h7, h8, h9, h10⟩ := h
  exact ⟨c, k, i, f, a, cell, h1, h2, h3, h4, h5, h6, h7, h8, h9, fun z => h10 (hAB _ z)⟩
theorem vx_L.word {C n d : String} {A : Nat → Prop} {s : State} {args : Array Value} (h : vx_L C n d A s s.heap) : (Cond.laysStatic C n d).before args s = true := by
  obtain ⟨c, k, i, f, a, cell, h1, h2, h3, h4, h5, h6, h7, h8, h9, -⟩ := h
  show (Cond.laysStatic C n d).holds args s none s [] = true
  exact Cond.laysStatic_of h1 h2 h3 h4 h5 h6 h7 h8 h9
/-- .. and what it holds: null or some reference -/
def vx_Zq (C n d : String) (A : Nat → Prop) (U : State) (H : Heap) : Prop := va_Zq C n d A U H ∧ vx_L C n d A U H
theorem vx_Zq.moved {C n d : String} {A : Nat → Prop} {u U : State} {H : Heap} (hvm : u.vm.Alike U.vm) (h : vx_Zq C n d A u H) : vx_Zq C n d A U H := ⟨va_Zq.moved hvm h.1, vx_L.moved hvm h.2⟩
theorem vx_Zq.kept {C n d : String} {A : Nat → Prop} {U : State} {H H1 : Heap} (h : vx_Zq C n d A U H) (hq : ∀ a : Nat, a < H.size → ¬ A a → H1[a]? = H[a]?) : vx_Zq C n d A U H1 := ⟨va_Zq.kept h.1 hq, vx_L.kept h.2 hq⟩
theorem vx_Zq.narrow {C n d : String} {A B : Nat → Prop} {U : State} {H : Heap} (h : vx_Zq C n d A U H) (hAB : ∀ q, B q → A q) : vx_Zq C n d B U H := ⟨va_Zq.narrow h.1 hAB, vx_L.narrow h.2 hAB⟩
theorem vx_Zqof {args : Array Value} {s : State} {C n d : String} {A : Nat → Prop} (hl : (Cond.laysStatic C n d).before args s = true) (hini : (Cond.initialized C).before args s = true) (h : (Cond.isRef (.static C n d)).before args s = true) (hA : ∀ a : Nat, a < s.heap.size → ¬ A a) : vx_Zq C n d A s s.heap := by
  refine ⟨va_Zqof hl hini h hA, ?_⟩
  obtain ⟨c, k, i, f, a, cell, h1, h2, h3, h4, h5, h6, h7, h8, h9⟩ := Cond.laysStatic_spec hl
  exact ⟨c, k, i, f, a, cell, h1, h2, h3, h4, h5, h6, h7, h8, h9, hA a (Array.getElem?_eq_some_iff.mp h5).1⟩
theorem vx_isRef {C n d : String} {v : Value} {A : Nat → Prop} {s : State} {args : Array Value} (h : va_Z C n d v A s s.heap) (hv : v.isRef = true) : (Cond.isRef (.static C n d)).before args s = true := by
  obtain ⟨cf, kf, fi, f, a, cell, h1, h2, h3, h4, h5, h6, h7, -⟩ := h
  have he : (Term.static C n d).eval args s none [] s = some v := by
    simp [Term.eval, State.fieldNamed?, h1, h2, h4, h5, h6, h7]
  simp only [Cond.before, Cond.holds, Cond.value, he]
  cases v <;> simp_all [Value.isRef]
theorem vx_isRefq {C n d : String} {A : Nat → Prop} {s : State} {args : Array Value} (h : va_Zq C n d A s s.heap) : (Cond.isRef (.static C n d)).before args s = true := by
  rcases h with h | ⟨t, h⟩
  · exact vx_isRef h rfl
  · exact vx_isRef h rfl
/-- the same frame, seen from here: as if the method were called anew in this heap -/
theorem vx_rebase {T : State} (X : Stand p l e R s m args below meth c T locs cells slots) {R' : Room} (hf : R'.frames ≤ R.frames) (hl : R'.locals ≤ R.locals) (hc : cells + R'.cells ≤ R.cells) (hs : slots + R'.slots ≤ R.slots) :
    Stand p l e R' ((T.setVm s.vm).setFrames (.invoking m args :: below)) m args below meth c T [] 0 0 := by
  have htop : (T.setVm s.vm).topJava?.isSome := X.here.top
  have hF : ((T.setVm s.vm).setFrames (.invoking m args :: below)).frames = .invoking m args :: below := State.frames_setFrames _ (State.cur_lt_of_top htop)
  obtain ⟨g₀, hg0⟩ := Option.isSome_iff_exists.mp htop
  obtain ⟨r, hr⟩ := State.topJava?_eq_some.mp hg0
  have hl9 : e.platform.stackLimits (T.setVm s.vm).me = e.platform.stackLimits s.me := X.limits
  have hb9 : (T.setVm s.vm).me.stackBytes = s.me.stackBytes := X.bytes
  refine ⟨X.admits, X.cas, X.clock, hF, ?_, X.hears, X.method, X.code, X.here, X.tail, X.warmed, ?_, ?_, ?_⟩
  · have h := X.room
    have hU : ((T.setVm s.vm).setFrames (.invoking m args :: below)).localsInUse = s.localsInUse := by
      rw [State.localsInUse_invoking hF (meth := meth) (c := c) X.method X.code, State.localsInUse_invoking X.frames X.method X.code]
    simp only [State.hasRoom, Bool.and_eq_true, decide_eq_true_eq] at h ⊢
    obtain ⟨⟨⟨⟨h1, h2, h3, h4, h5, h6⟩, h7⟩, h8⟩, h9⟩ := h
    rw [X.frames, List.length_cons] at h2 h3
    have q1 := X.heapSize
    have q2 := X.used
    simp only [hF, hU, List.length_cons, State.stackLimits_setFrames, State.stackBytes_setFrames, hl9, hb9]
    refine ⟨⟨⟨⟨by omega, by omega, by omega, by omega, by omega, h6⟩, ?_⟩, ?_⟩, X.book⟩
    · show T.heap.size + R'.cells ≤ e.platform.maxCells
      omega
    · show T.slotsUsed + R'.slots ≤ e.platform.maxSlots
      omega
  · rw [State.stackLimits_setFrames]; rfl
  · rw [State.stackBytes_setFrames]; rfl
  · refine ⟨?_, Nat.le_refl _, Nat.le_refl _, ?_, ?_, fun a c9 h9 => ⟨c9, h9, rfl, rfl, fun _ _ => rfl⟩⟩
    · obtain ⟨t, ht, -⟩ := State.frames_cons hr
      show T.setVm s.vm = { ((T.setVm s.vm).setFrames (.invoking m args :: below)).setFrames (T.setVm s.vm).frames with heap := T.heap, slotsUsed := T.slotsUsed }
      rw [State.setFrames_setFrames, State.setFrames_self ht]
      rfl
    · show T.slotsUsed = T.slotsUsed + ((T.heap.toList.drop T.heap.size).map (·.slots.size)).sum
      rw [List.drop_eq_nil_of_le (Nat.le_of_eq Array.length_toList)]
      rfl
    · show ((T.heap.toList.drop T.heap.size).map (·.slots.size)).sum ≤ 0
      rw [List.drop_eq_nil_of_le (Nat.le_of_eq Array.length_toList)]
      exact Nat.le_refl _
/-- 'throw new E()': new; dup; invokespecial; athrow -/
theorem vx_throw0 {cc : ByteArray} {pc : Nat} (hexec : p.tables.exec = Jvm.exec) (hb : c.code = cc) (hl : l.stackTraces = false) {own cls : String} {names : List String} {ik ic mc ms : Nat} {A : Nat → Prop}
    (hown : s.vm.findClass own = some m.cls) (hcls : Bundle.fit cls = true) (hnames : ∀ n ∈ names, Bundle.fit n = true)
    (hk : (Cond.classLink own ik cls).before args s = true) (hini : (Cond.initialized cls).before args s = true) (hat : ∀ w ∈ vx_at0 own ic cls names, w.before args s = true)
    (hgood : ∀ w ∈ Cond.classLink own ik cls :: Cond.initialized cls :: vx_at0 own ic cls names, vx_ot w = true)
    (hU : vx_Zq Bundle.tN "UNASSIGNED_STACK" Bundle.steD A s s.heap) (hN : vx_Zq Bundle.tN "SUPPRESSED_SENTINEL" Bundle.listD A s s.heap) (hS : va_S A s.heap H locs) (hsize : ls.size = c.maxLocals)
    (d0 : decode cc pc = .ok (.new ik, 3)) (d3 : decode cc (pc + 3) = .ok (.dup, 1)) (d4 : decode cc (pc + 4) = .ok (.invokespecial ic, 3)) (d7 : decode cc (pc + 7) = .ok (.athrow, 1))
    (hout : ∀ x ∈ c.exceptionTable.toList, covers x (pc + 7) = false)
    (hRframes : names.length + 3 < R.frames) (hRlocals : (rest.map fun v => v.category).sum + (13 * (names.length + 1) + 42) ≤ R.locals) (hRcells : cells + 1 ≤ R.cells) (hRslots : slots + 6 ≤ R.slots) (hlocks : meth.locks = false)
    (hx : ∀ t : State, s.vm.Alike t.vm → H.size ≤ t.heap.size → (∀ q : Nat, q < H.size → t.heap[q]? = H[q]?) → XC cls s t)
    (hf : ∀ z ∈ locs, free z.base) (hc : cells + 1 ≤ mc) (hs : slots + 6 ≤ ms) :
    W p l e R s m args below meth c H locs cells slots (vx_MQ below Qc XC args s mc ms free) (F0 m pc ls rest) := by
  intro T hT X
  have htr : e.platform.stackTraces = false := (show e.platform.stackTraces = l.stackTraces by rw [X.admits.platform]).trans hl
  have Y := vx_rebase X (R' := { frames := R.frames, locals := R.locals, cells := 1, slots := 6 }) (Nat.le_refl _) (Nat.le_refl _) hRcells hRslots
  obtain ⟨s', hA⟩ : ∃ z, z = (T.setVm s.vm).setFrames (.invoking m args :: below) := ⟨_, rfl⟩
  rw [← hA] at Y
  have hvm : s'.vm = s.vm := by rw [hA]; rfl
  have hhp : s'.heap = H := by rw [hA]; exact hT
  have hW0 : s.WarmedH s'.vm := by rw [hvm]; exact State.WarmedH.refl s
  have hat' : ∀ w ∈ vx_at0 own ic cls names, w.before args s' = true := fun w hw => vx_ot_at hW0 hvm.symm (hgood w (List.mem_cons_of_mem _ (List.mem_cons_of_mem _ hw))) (hat w hw)
  have hk' : (Cond.classLink own ik cls).before args s' = true := vx_ot_at hW0 hvm.symm (hgood _ List.mem_cons_self) hk
  have hini' : (Cond.initialized cls).before args s' = true := vx_ot_at hW0 hvm.symm (hgood _ (List.mem_cons_of_mem _ List.mem_cons_self)) hini
  have hU' : vx_Zq Bundle.tN "UNASSIGNED_STACK" Bundle.steD A s' s'.heap := by rw [hhp]; exact vx_Zq.moved hW0.alike (hU.kept hS.2.1)
  have hN' : vx_Zq Bundle.tN "SUPPRESSED_SENTINEL" Bundle.listD A s' s'.heap := by rw [hhp]; exact vx_Zq.moved hW0.alike (hN.kept hS.2.1)
  have h : ∀ w ∈ Bundle.ownAtoms0 own ic cls names, w.before args s' = true := vx_own hat' (vx_isRefq hU'.1) (vx_isRefq hN'.1) hU'.2.word hN'.2.word
  have hown' : s'.vm.findClass own = some m.cls := by rw [hvm]; exact hown
  have hins : (Cond.instantiable cls 6).before args s' = true := h _ (by simp [Bundle.ownAtoms0])
  obtain ⟨vm₁, cX, kX, hfX, hkX, -, -, X₁, st1⟩ := Y.newCold hexec (own := own) (C := cls) (index := ik) (n := 6) hown' hk' hins hini'
    (g := F0 m pc ls rest) rfl (by rw [hb]; exact d0) (Nat.le_refl _) (Nat.le_refl _)
  generalize hT1 : (T.setVm vm₁).pushCell { cls := cX, slots := kX.instanceTypes.map defaultValue, vm := .none } = T1 at X₁ st1
  have hcat : (Value.ref T.heap.size).category = 1 := rfl
  have hcellA : T1.heap[T.heap.size]? = some (freshCell cX kX) := by rw [← hT1]; exact State.heap_pushCell_size _ _
  have d3' : decode c.code (pc + 3) = .ok (.dup, 1) := by rw [hb]; exact d3
  obtain ⟨U, hsteps, hrun, hend, hW, hsame, ce, hce, hO⟩ := X₁.ctorThrow0 hexec htr (own := own) (cls := cls) (names := names) (ic := ic) hown' hcls hnames h (fun x hx => nomatch hx) hfX hkX hcellA (by rw [hhp, hT]; exact Nat.le_refl _)
    (g := { method := m, pc := pc + 4, locals := ls, stack := .ref T.heap.size :: .ref T.heap.size :: rest, locked := none }) rfl hsize rfl rfl (rest := rest) rfl
    (by rw [hb]; exact d4) (by rw [hb]; exact d7) hout hRframes (by simp only [List.map_cons, List.sum_cons, hcat]; omega) hlocks
  obtain ⟨f1, f2⟩ := vx_frame hsame
  rw [hhp] at f1 f2
  have hWs : s.WarmedH U.vm := State.WarmedH.trans hW0 hW
  have hcl : s.vm.findClass cls = some ce.cls := by
    have h9 := hO.cls
    rw [hvm] at h9
    exact h9
  have hall : s.sameButNew ({ U with vm := s.vm } : State) locs mc ms := by
    subst hA
    obtain ⟨e1, e2⟩ := hsame
    rw [State.setFrames_setFrames] at e1
    have h2 : (T.setVm s.vm).sameButNew ({ U with vm := s.vm } : State) [] (0 + 1) (0 + 6) := ⟨e1, e2⟩
    have h3 := X.same.trans h2
    rw [List.append_nil] at h3
    exact h3.mono hc hs
  refine ⟨U, ?_, .threw T.heap.size, hrun, hend, Or.inr ⟨T.heap.size, rfl, cls, ce, locs, hx U hWs.alike f1 (fun q hq => f2 q hq (fun z hz => nomatch hz)), hce, hO.vm, hcl, hWs, hall, hf⟩⟩
  refine st1 _ ?_
  show Steps p.tables e below (T1.setTop { method := m, pc := pc + 3, locals := ls, stack := .ref T.heap.size :: rest, locked := none }) _
  jvm_step X₁.here [X₁.here.top, hexec, d3', Value.category]
  exact hsteps
/-- 'throw new E("text")': new; dup; ldc; invokespecial; athrow -/
theorem vx_throwS {cc : ByteArray} {pc : Nat} (hexec : p.tables.exec = Jvm.exec) (hb : c.code = cc) (hl : l.stackTraces = false) {own cls text : String} {names : List String} {ik is ic mc ms sa : Nat} {A : Nat → Prop}
    (hown : s.vm.findClass own = some m.cls) (hcls : Bundle.fit cls = true) (hnames : ∀ n ∈ names, Bundle.fit n = true)
    (hk : (Cond.classLink own ik cls).before args s = true) (hini : (Cond.initialized cls).before args s = true) (hstr : vk_R own is text sa s) (hat : ∀ w ∈ vx_atS own ic cls names, w.before args s = true)
    (hgood : ∀ w ∈ Cond.classLink own ik cls :: Cond.initialized cls :: vx_atS own ic cls names, vx_ot w = true)
    (hU : vx_Zq Bundle.tN "UNASSIGNED_STACK" Bundle.steD A s s.heap) (hN : vx_Zq Bundle.tN "SUPPRESSED_SENTINEL" Bundle.listD A s s.heap) (hS : va_S A s.heap H locs) (hsize : ls.size = c.maxLocals)
    (d0 : decode cc pc = .ok (.new ik, 3)) (d3 : decode cc (pc + 3) = .ok (.dup, 1)) (d4 : decode cc (pc + 4) = .ok (.ldc is, 2)) (d6 : decode cc (pc + 6) = .ok (.invokespecial ic, 3)) (d9 : decode cc (pc + 9) = .ok (.athrow, 1))
    (hout : ∀ x ∈ c.exceptionTable.toList, covers x (pc + 9) = false)
    (hRframes : names.length + 3 < R.frames) (hRlocals : (rest.map fun v => v.category).sum + (13 * (names.length + 1) + 43) ≤ R.locals) (hRcells : cells + 1 ≤ R.cells) (hRslots : slots + 6 ≤ R.slots) (hlocks : meth.locks = false)
    (hx : ∀ t : State, s.vm.Alike t.vm → H.size ≤ t.heap.size → (∀ q : Nat, q < H.size → t.heap[q]? = H[q]?) → XC cls s t)
    (hf : ∀ z ∈ locs, free z.base) (hc : cells + 1 ≤ mc) (hs : slots + 6 ≤ ms) :
    W p l e R s m args below meth c H locs cells slots (vx_MQ below Qc XC args s mc ms free) (F0 m pc ls rest) := by
  intro T hT X
  have htr : e.platform.stackTraces = false := (show e.platform.stackTraces = l.stackTraces by rw [X.admits.platform]).trans hl
  have Y := vx_rebase X (R' := { frames := R.frames, locals := R.locals, cells := 1, slots := 6 }) (Nat.le_refl _) (Nat.le_refl _) hRcells hRslots
  obtain ⟨s', hA⟩ : ∃ z, z = (T.setVm s.vm).setFrames (.invoking m args :: below) := ⟨_, rfl⟩
  rw [← hA] at Y
  have hvm : s'.vm = s.vm := by rw [hA]; rfl
  have hhp : s'.heap = H := by rw [hA]; exact hT
  have hW0 : s.WarmedH s'.vm := by rw [hvm]; exact State.WarmedH.refl s
  have hat' : ∀ w ∈ vx_atS own ic cls names, w.before args s' = true := fun w hw => vx_ot_at hW0 hvm.symm (hgood w (List.mem_cons_of_mem _ (List.mem_cons_of_mem _ hw))) (hat w hw)
  have hk' : (Cond.classLink own ik cls).before args s' = true := vx_ot_at hW0 hvm.symm (hgood _ List.mem_cons_self) hk
  have hini' : (Cond.initialized cls).before args s' = true := vx_ot_at hW0 hvm.symm (hgood _ (List.mem_cons_of_mem _ List.mem_cons_self)) hini
  have hU' : vx_Zq Bundle.tN "UNASSIGNED_STACK" Bundle.steD A s' s'.heap := by rw [hhp]; exact vx_Zq.moved hW0.alike (hU.kept hS.2.1)
  have hN' : vx_Zq Bundle.tN "SUPPRESSED_SENTINEL" Bundle.listD A s' s'.heap := by rw [hhp]; exact vx_Zq.moved hW0.alike (hN.kept hS.2.1)
  have h : ∀ w ∈ Bundle.ownAtoms own ic cls names, w.before args s' = true := vx_own hat' (vx_isRefq hU'.1) (vx_isRefq hN'.1) hU'.2.word hN'.2.word
  have hown' : s'.vm.findClass own = some m.cls := by rw [hvm]; exact hown
  have hins : (Cond.instantiable cls 6).before args s' = true := h _ (by simp [Bundle.ownAtoms])
  obtain ⟨vm₁, cX, kX, hfX, hkX, -, -, X₁, st1⟩ := Y.newCold hexec (own := own) (C := cls) (index := ik) (n := 6) hown' hk' hins hini'
    (g := F0 m pc ls rest) rfl (by rw [hb]; exact d0) (Nat.le_refl _) (Nat.le_refl _)
  generalize hT1 : (T.setVm vm₁).pushCell { cls := cX, slots := kX.instanceTypes.map defaultValue, vm := .none } = T1 at X₁ st1
  have hcat : (Value.ref T.heap.size).category = 1 := rfl
  have hcellA : T1.heap[T.heap.size]? = some (freshCell cX kX) := by rw [← hT1]; exact State.heap_pushCell_size _ _
  have d3' : decode c.code (pc + 3) = .ok (.dup, 1) := by rw [hb]; exact d3
  have d4' : decode c.code (pc + 4) = .ok (.ldc is, 2) := by rw [hb]; exact d4
  have hstr' : vk_R own is text sa s' := vk_R.warm hW0 hstr
  obtain ⟨U, hsteps, hrun, hend, hW, hsame, ce, hce, hO⟩ := X₁.ctorThrowS hexec htr (own := own) (cls := cls) (names := names) (ic := ic) hown' hcls hnames h (fun x hx => nomatch hx) hfX hkX hcellA (by rw [hhp, hT]; exact Nat.le_refl _) (msg := .ref sa) rfl
    (g := { method := m, pc := pc + 6, locals := ls, stack := .ref sa :: .ref T.heap.size :: .ref T.heap.size :: rest, locked := none }) rfl hsize rfl rfl (rest := rest) rfl
    (by rw [hb]; exact d6) (by rw [hb]; exact d9) hout hRframes (by simp only [List.map_cons, List.sum_cons, hcat]; omega) hlocks
  obtain ⟨f1, f2⟩ := vx_frame hsame
  rw [hhp] at f1 f2
  have hWs : s.WarmedH U.vm := State.WarmedH.trans hW0 hW
  have hcl : s.vm.findClass cls = some ce.cls := by
    have h9 := hO.cls
    rw [hvm] at h9
    exact h9
  have hall : s.sameButNew ({ U with vm := s.vm } : State) locs mc ms := by
    subst hA
    obtain ⟨e1, e2⟩ := hsame
    rw [State.setFrames_setFrames] at e1
    have h2 : (T.setVm s.vm).sameButNew ({ U with vm := s.vm } : State) [] (0 + 1) (0 + 6) := ⟨e1, e2⟩
    have h3 := X.same.trans h2
    rw [List.append_nil] at h3
    exact h3.mono hc hs
  refine ⟨U, ?_, .threw T.heap.size, hrun, hend, Or.inr ⟨T.heap.size, rfl, cls, ce, locs, hx U hWs.alike f1 (fun q hq => f2 q hq (fun z hz => nomatch hz)), hce, hO.vm, hcl, hWs, hall, hf⟩⟩
  refine st1 _ ?_
  show Steps p.tables e below (T1.setTop { method := m, pc := pc + 3, locals := ls, stack := .ref T.heap.size :: rest, locked := none }) _
  jvm_step X₁.here [X₁.here.top, hexec, d3', Value.category]
  exact X₁.ldcString hexec (own := own) (text := text) (index := is) (a := sa) hown' hstr'.1 hstr'.2
    (g := { method := m, pc := pc + 4, locals := ls, stack := .ref T.heap.size :: .ref T.heap.size :: rest, locked := none }) rfl d4' _ hsteps
/-- 'throw new E("text")', the text by a wide index -/
theorem vx_throwSW {cc : ByteArray} {pc : Nat} (hexec : p.tables.exec = Jvm.exec) (hb : c.code = cc) (hl : l.stackTraces = false) {own cls text : String} {names : List String} {ik is ic mc ms sa : Nat} {A : Nat → Prop}
    (hown : s.vm.findClass own = some m.cls) (hcls : Bundle.fit cls = true) (hnames : ∀ n ∈ names, Bundle.fit n = true)
    (hk : (Cond.classLink own ik cls).before args s = true) (hini : (Cond.initialized cls).before args s = true) (hstr : vk_R own is text sa s) (hat : ∀ w ∈ vx_atS own ic cls names, w.before args s = true)
    (hgood : ∀ w ∈ Cond.classLink own ik cls :: Cond.initialized cls :: vx_atS own ic cls names, vx_ot w = true)
    (hU : vx_Zq Bundle.tN "UNASSIGNED_STACK" Bundle.steD A s s.heap) (hN : vx_Zq Bundle.tN "SUPPRESSED_SENTINEL" Bundle.listD A s s.heap) (hS : va_S A s.heap H locs) (hsize : ls.size = c.maxLocals)
    (d0 : decode cc pc = .ok (.new ik, 3)) (d3 : decode cc (pc + 3) = .ok (.dup, 1)) (d4 : decode cc (pc + 4) = .ok (.ldc_w is, 3)) (d7 : decode cc (pc + 7) = .ok (.invokespecial ic, 3)) (d10 : decode cc (pc + 10) = .ok (.athrow, 1))
    (hout : ∀ x ∈ c.exceptionTable.toList, covers x (pc + 10) = false)
    (hRframes : names.length + 3 < R.frames) (hRlocals : (rest.map fun v => v.category).sum + (13 * (names.length + 1) + 43) ≤ R.locals) (hRcells : cells + 1 ≤ R.cells) (hRslots : slots + 6 ≤ R.slots) (hlocks : meth.locks = false)
    (hx : ∀ t : State, s.vm.Alike t.vm → H.size ≤ t.heap.size → (∀ q : Nat, q < H.size → t.heap[q]? = H[q]?) → XC cls s t)
    (hf : ∀ z ∈ locs, free z.base) (hc : cells + 1 ≤ mc) (hs : slots + 6 ≤ ms) :
    W p l e R s m args below meth c H locs cells slots (vx_MQ below Qc XC args s mc ms free) (F0 m pc ls rest) := by
  intro T hT X
  have htr : e.platform.stackTraces = false := (show e.platform.stackTraces = l.stackTraces by rw [X.admits.platform]).trans hl
  have Y := vx_rebase X (R' := { frames := R.frames, locals := R.locals, cells := 1, slots := 6 }) (Nat.le_refl _) (Nat.le_refl _) hRcells hRslots
  obtain ⟨s', hA⟩ : ∃ z, z = (T.setVm s.vm).setFrames (.invoking m args :: below) := ⟨_, rfl⟩
  rw [← hA] at Y
  have hvm : s'.vm = s.vm := by rw [hA]; rfl
  have hhp : s'.heap = H := by rw [hA]; exact hT
  have hW0 : s.WarmedH s'.vm := by rw [hvm]; exact State.WarmedH.refl s
  have hat' : ∀ w ∈ vx_atS own ic cls names, w.before args s' = true := fun w hw => vx_ot_at hW0 hvm.symm (hgood w (List.mem_cons_of_mem _ (List.mem_cons_of_mem _ hw))) (hat w hw)
  have hk' : (Cond.classLink own ik cls).before args s' = true := vx_ot_at hW0 hvm.symm (hgood _ List.mem_cons_self) hk
  have hini' : (Cond.initialized cls).before args s' = true := vx_ot_at hW0 hvm.symm (hgood _ (List.mem_cons_of_mem _ List.mem_cons_self)) hini
  have hU' : vx_Zq Bundle.tN "UNASSIGNED_STACK" Bundle.steD A s' s'.heap := by rw [hhp]; exact vx_Zq.moved hW0.alike (hU.kept hS.2.1)
  have hN' : vx_Zq Bundle.tN "SUPPRESSED_SENTINEL" Bundle.listD A s' s'.heap := by rw [hhp]; exact vx_Zq.moved hW0.alike (hN.kept hS.2.1)
  have h : ∀ w ∈ Bundle.ownAtoms own ic cls names, w.before args s' = true := vx_own hat' (vx_isRefq hU'.1) (vx_isRefq hN'.1) hU'.2.word hN'.2.word
  have hown' : s'.vm.findClass own = some m.cls := by rw [hvm]; exact hown
  have hins : (Cond.instantiable cls 6).before args s' = true := h _ (by simp [Bundle.ownAtoms])
  obtain ⟨vm₁, cX, kX, hfX, hkX, -, -, X₁, st1⟩ := Y.newCold hexec (own := own) (C := cls) (index := ik) (n := 6) hown' hk' hins hini'
    (g := F0 m pc ls rest) rfl (by rw [hb]; exact d0) (Nat.le_refl _) (Nat.le_refl _)
  generalize hT1 : (T.setVm vm₁).pushCell { cls := cX, slots := kX.instanceTypes.map defaultValue, vm := .none } = T1 at X₁ st1
  have hcat : (Value.ref T.heap.size).category = 1 := rfl
  have hcellA : T1.heap[T.heap.size]? = some (freshCell cX kX) := by rw [← hT1]; exact State.heap_pushCell_size _ _
  have d3' : decode c.code (pc + 3) = .ok (.dup, 1) := by rw [hb]; exact d3
  have d4' : decode c.code (pc + 4) = .ok (.ldc_w is, 3) := by rw [hb]; exact d4
  have hstr' : vk_R own is text sa s' := vk_R.warm hW0 hstr
  obtain ⟨U, hsteps, hrun, hend, hW, hsame, ce, hce, hO⟩ := X₁.ctorThrowS hexec htr (own := own) (cls := cls) (names := names) (ic := ic) hown' hcls hnames h (fun x hx => nomatch hx) hfX hkX hcellA (by rw [hhp, hT]; exact Nat.le_refl _) (msg := .ref sa) rfl
    (g := { method := m, pc := pc + 7, locals := ls, stack := .ref sa :: .ref T.heap.size :: .ref T.heap.size :: rest, locked := none }) rfl hsize rfl rfl (rest := rest) rfl
    (by rw [hb]; exact d7) (by rw [hb]; exact d10) hout hRframes (by simp only [List.map_cons, List.sum_cons, hcat]; omega) hlocks
  obtain ⟨f1, f2⟩ := vx_frame hsame
  rw [hhp] at f1 f2
  have hWs : s.WarmedH U.vm := State.WarmedH.trans hW0 hW
  have hcl : s.vm.findClass cls = some ce.cls := by
    have h9 := hO.cls
    rw [hvm] at h9
    exact h9
  have hall : s.sameButNew ({ U with vm := s.vm } : State) locs mc ms := by
    subst hA
    obtain ⟨e1, e2⟩ := hsame
    rw [State.setFrames_setFrames] at e1
    have h2 : (T.setVm s.vm).sameButNew ({ U with vm := s.vm } : State) [] (0 + 1) (0 + 6) := ⟨e1, e2⟩
    have h3 := X.same.trans h2
    rw [List.append_nil] at h3
    exact h3.mono hc hs
  refine ⟨U, ?_, .threw T.heap.size, hrun, hend, Or.inr ⟨T.heap.size, rfl, cls, ce, locs, hx U hWs.alike f1 (fun q hq => f2 q hq (fun z hz => nomatch hz)), hce, hO.vm, hcl, hWs, hall, hf⟩⟩
  refine st1 _ ?_
  show Steps p.tables e below (T1.setTop { method := m, pc := pc + 3, locals := ls, stack := .ref T.heap.size :: rest, locked := none }) _
  jvm_step X₁.here [X₁.here.top, hexec, d3', Value.category]
  exact X₁.ldcStringW hexec (own := own) (text := text) (index := is) (a := sa) hown' hstr'.1 hstr'.2
    (g := { method := m, pc := pc + 4, locals := ls, stack := .ref T.heap.size :: .ref T.heap.size :: rest, locked := none }) rfl d4' _ hsteps
end Ends
section Bodies
variable {l : Launch}
theorem vx_ofW {y : MethodName} {ws ws' : List Cond} {rm : Room} {Pc : Array Value → State → Prop} {Qc : Array Value → State → Outcome → State → Prop} {XC : String → State → State → Prop} {mc ms : Nat} {free : Addr → Prop} {cc : ByteArray} {maxL : Nat} {ret : Option FieldType}
    (hy : plainName y.cls = true) (hw : ws = Cond.code y cc maxL ret :: ws')
    (body : ∀ p e s m args below meth c s₁, BodyLoose p l y (headSpec ws rm) cc maxL ret e s m args below meth c s₁ → c.maxLocals = maxL → (∀ x ∈ c.exceptionTable.toList, False) → Pc args s →
      W p l e (headSpec ws rm).room s m args below meth c s.heap [] 0 0 (vx_MQ below Qc XC args s mc ms free) (entryFrame m args maxL)) : vx_Met l y ws rm Pc Qc XC mc ms free := by
  refine MetFree.of_bodyS (code := cc) (maxLocals := maxL) (ret := ret) hy ?_ ?_
  · intro args s m h hn
    obtain ⟨meth, c, h1, h2, h3, h4, h5, h6, -, -⟩ := Cond.code_spec hn (atoms_spec (ws := ws) h _ (by rw [hw]; exact List.mem_cons_self))
    exact ⟨meth, c, h1, h2, h3, h4, h5, h6⟩
  · intro p e s m args below meth c s₁ B hml hP _
    have hh0 : s₁.heap = s.heap := by rw [B.state]; rfl
    have ht : ∀ x ∈ c.exceptionTable.toList, False := by
      obtain ⟨meth9, c9, h1, h2, -, -, -, -, h7, -⟩ := Cond.code_spec B.named (atoms_spec (ws := ws) B.pre _ (by rw [hw]; exact List.mem_cons_self))
      cases Option.some.inj (h1.symm.trans B.method)
      cases Option.some.inj (h2.symm.trans (Stand.of_body B).code)
      intro x hx
      rw [Array.isEmpty_iff.mp h7] at hx
      cases hx
    obtain ⟨t, a1, o, b1, b2, b3⟩ := body p e s m args below meth c s₁ B hml ht hP s₁ hh0 (Stand.of_body B)
    exact ⟨t, o, a1, b1, b2, b3⟩
/-- the table of a body with handlers -/
theorem vx_table {p : Program} {x y : MethodName} {S : Spec} {cc bytes : ByteArray} {maxL maxL' : Nat} {ret ret' : Option FieldType} {e : Env} {s s₁ : State} {m : MethodId} {args : Array Value} {below : List Frame} {meth : Method} {c : Code} {hh : List (Nat × Nat × Nat × Nat)}
    (B : BodyLoose p l y S cc maxL ret e s m args below meth c s₁) (h : (Cond.codeWith y bytes maxL' ret' hh).before args s = true) : c.exceptionTable.toList = tableOf hh := by
  obtain ⟨m9, meth9, c9, hn9, h1, h2, -, -, h6, -⟩ := Cond.codeWith_spec h
  cases Option.some.inj (hn9.symm.trans B.named)
  cases Option.some.inj (h1.symm.trans B.method)
  cases Option.some.inj (h2.symm.trans (Stand.of_body B).code)
  rw [← h6, table_eq]
end Bodies
end VXA
section VXS
variable {p : Program} {l : Launch} {e : Env} {R : Room} {s : State} {m : MethodId} {args : Array Value} {below : List Frame} {meth : Method} {c : Code} {T : State} {H : Heap} {locs : List Loc} {cells slots : Nat}
abbrev vx_CSW (R : Room) (s : State) (args : Array Value) (own : String) (index : Nat) (y : MethodName) (bytes : ByteArray) (maxL : Nat) (ret : Option FieldType) (hh : List (Nat × Nat × Nat × Nat)) (ws : List Cond) (rm : Room) (mc ms n : Nat) : Prop :=
  (rm.cells = mc ∧ rm.slots = ms ∧ rm.frames + 1 ≤ R.frames ∧ 8 + (maxL + 11) + rm.locals ≤ R.locals ∧ (∀ w ∈ ws, ∀ (a' : Array Value) (U : State), s.WarmedH U.vm → w.before a' U = true) ∧ Cond.codeWith y bytes maxL ret hh ∈ ws) ∧
  (Cond.codeWith y bytes maxL ret hh).before args s = true ∧ (Cond.initialized y.cls).before args s = true ∧ (y.cls ≠ "java/lang/invoke/MethodHandle" ∧ y.cls ≠ "java/lang/invoke/VarHandle") ∧
  (∀ sig, parseMethodDescriptor y.desc = some sig → n = sig.parameters.length) ∧ (Cond.methodLink own index y).before args s = true ∧ (Cond.static y).before args s = true
theorem vx_cwSW {own : String} {index maxL mc ms : Nat} {y : MethodName} {bytes : ByteArray} {ret : Option FieldType} {hh : List (Nat × Nat × Nat × Nat)} {Ts ws ws' : List Cond} {rm : Room} (n : Nat) (ht : ∀ w ∈ Ts, w.before args s = true) (hT : GoodIn Ts (va_wsS own index y ws)) (hw : ws = Cond.codeWith y bytes maxL ret hh :: ws') (hrc : rm.cells = mc) (hrs : rm.slots = ms)
    (hd : y.cls ≠ "java/lang/invoke/MethodHandle" ∧ y.cls ≠ "java/lang/invoke/VarHandle" ∧ (parseMethodDescriptor y.desc).map (fun d => d.parameters.length) = some n) (hR : rm.frames + 1 ≤ R.frames ∧ 8 + (maxL + 11) + rm.locals ≤ R.locals) :
    vx_CSW R s args own index y bytes maxL ret hh ws rm mc ms n := by
  have ok : ∀ w ∈ va_wsS own index y ws, w.before args s = true := fun w h => ht w (hT w h).1
  have hG : GoodIn Ts ws := fun w h => hT w (by unfold va_wsS; exact List.mem_append_right _ h)
  have hc : Cond.codeWith y bytes maxL ret hh ∈ ws := by rw [hw]; exact List.mem_cons_self
  refine ⟨⟨hrc, hrs, hR.1, hR.2, pay_in ht hG, hc⟩, ht _ (hG _ hc).1, ok _ (by simp [va_wsS]), ⟨hd.1, hd.2.1⟩, fun sig h => ?_, ok _ (by simp [va_wsS]), ok _ (by simp [va_wsS])⟩
  have h2 := hd.2.2
  rw [h] at h2
  exact (Option.some.inj h2).symm
theorem vx_callSW (X : Stand p l e R s m args below meth c T locs cells slots) (hexec : p.tables.exec = Jvm.exec) {own : String} {index : Nat} {y : MethodName} {bytes : ByteArray} {maxL : Nat} {ret : Option FieldType} {hh : List (Nat × Nat × Nat × Nat)}
    (hown : s.vm.findClass own = some m.cls) (hlink : (Cond.methodLink own index y).before args s = true) (hstat : (Cond.static y).before args s = true) (hinit : (Cond.initialized y.cls).before args s = true)
    (hcode : (Cond.codeWith y bytes maxL ret hh).before args s = true) (hy : y.cls ≠ "java/lang/invoke/MethodHandle" ∧ y.cls ≠ "java/lang/invoke/VarHandle")
    {W9 : Nat} {Pre : Pt → Array Value → Prop} {Post : Pt → Array Value → Option Value → Pt → Prop} (hK : Back l R p e below s args y 3 W9 Pre Post)
    {g : JFrame} (hg : g.method = m) (hsize : g.locals.size = c.maxLocals) {argsL rest : List Value} (hlen : ∀ sig, parseMethodDescriptor y.desc = some sig → argsL.length = sig.parameters.length)
    (hstack : g.stack = argsL.reverse ++ rest) (hW : 2 * g.monitorRoom + (rest.map fun v => v.category).sum ≤ W9) (hdg : decode c.code g.pc = .ok (.invokestatic index, 3))
    (hpre : ∀ vm₁, s.WarmedH vm₁ → Pre ⟨T.setVm vm₁, locs, cells, slots⟩ argsL.toArray) :
    ∃ (v : Option Value) (vm₁ : Vm) (B : Pt), s.WarmedH vm₁ ∧ Stand p l e R s m args below meth c B.U B.locs B.cells B.slots ∧ Post ⟨T.setVm vm₁, locs, cells, slots⟩ argsL.toArray v B ∧
      ∀ target, Steps p.tables e below (B.U.setTop { g with pc := g.pc + 3, stack := v.toList ++ rest }) target → Steps p.tables e below (T.setTop g) target := by
  obtain ⟨mk, methM, cM, hnamed, hmethM, -, -, -, -, -, -, hsigM⟩ := Cond.codeWith_spec hcode
  have hstatic : methM.isStatic = true := Cond.static_spec hnamed hmethM hstat
  obtain ⟨kP, hkP, -⟩ := className_of_methodNamed hnamed
  have hinitP : kP.init = .initialized := Cond.initialized_spec (findClass_of_methodNamed hnamed) hkP hinit
  obtain ⟨vm₁, X₁, hstep₁⟩ := X.invokestatic hexec hown hlink hnamed hmethM hstatic hkP hinitP hy (g := g) hg (argsL := argsL) (rest := rest) (hlen _ hsigM) hstack hdg
  obtain ⟨v, B, X', hpost, hsteps⟩ := hK m meth c ⟨T.setVm vm₁, locs, cells, slots⟩ { g with stack := rest } (.invokestatic index) mk argsL.toArray X₁ hg hsize hdg hW (X₁.named hnamed) (hpre vm₁ X₁.warmed)
  exact ⟨v, vm₁, B, X₁.warmed, X', hpost, fun target h => hstep₁ _ fun acts => by rw [doInvoke_state]; exact hsteps.trans h⟩
theorem vx_runSW {y : MethodName} {bytes cc : ByteArray} {maxL nL mc ms n index : Nat} {ret : Option FieldType} {hh : List (Nat × Nat × Nat × Nat)} {ws : List Cond} {rm : Room} {Pc : Array Value → State → Prop} {Qc : Array Value → State → Outcome → State → Prop} {free : Addr → Prop} {Ts : List Cond} {own : String} {As rest : List Value} {g : JFrame}
    (S : CallFix p m c cc nL s args Ts own) (hM : Met l y ws rm Pc Qc mc ms free) (cw : vx_CSW R s args own index y bytes maxL ret hh ws rm mc ms n) (hp : PreS s H Pc As)
    (hg : g.method = m) (hn : As.length = n) (hsize : g.locals.size = nL) (hstack : g.stack = As.reverse ++ rest) (hW : 2 * g.monitorRoom + (rest.map fun v => v.category).sum ≤ 8) (hdg : decode cc g.pc = .ok (.invokestatic index, 3)) (hf : cells + mc ≤ R.cells ∧ slots + ms ≤ R.slots) :
    va_Run p l e R s m args below meth c H locs cells slots mc ms g rest (Qc As.toArray) (free) := by
  obtain ⟨⟨hrc, hrs, hfr, hlo, hws, hcw⟩, hcode, hini, hy, hlen, hl, hstt⟩ := cw
  have hK : Back l R p e below s args y 3 8 (PreOf R mc ms Pc) (PostOf Qc mc ms free) := va_backW (hh := hh) (bytes := bytes) (maxL := maxL) (ret := ret) hM hp.1 hrc hrs hfr hlo hws hcw (fun a' U hW => word_at hW (Or.inl (by first | rfl | simp [Cond.onTables, Cond.keeps, Cond.steady])) hini)
  obtain ⟨hx, hb, hml, ho, -⟩ := S
  intro T hT X
  obtain ⟨v, vm₁, ⟨U', l2, c2, s2⟩, hW₁, X', ⟨g', mk, t, L, e1, e2, hq, h1, hL, h2, h3⟩, st⟩ := vx_callSW X hx (hh := hh) (bytes := bytes) (maxL := maxL) (ret := ret) ho hl hstt hini hcode hy hK hg (hsize.trans hml.symm) (argsL := As) (rest := rest) (fun sig h => hn.trans (hlen sig h)) hstack hW (by rw [hb]; exact hdg)
    (fun vm₁ hW₁ => ⟨hf.1, hf.2, hp.2 (T.setVm vm₁) hT hW₁⟩)
  dsimp only [Pt.U, Pt.locs, Pt.cells, Pt.slots] at X' e1 e2 h1 h2 h3 st
  subst h1; subst h2; subst h3
  exact ⟨v, (T.setVm vm₁).calling g' mk As.toArray, t, U', L, hT, X', hL, e1, e2, hq, st⟩
/-- a thing of a world lies in the heap -/
theorem vx_lt {D : va_G} {cl : List vw_C} {ws : va_W} {H1 : Heap} (h : va_P D cl ws H1) {k : Nat} {q : Nat × va_E} (hk : ws[k]? = some q) : q.1 < H1.size := (h k q hk).lt
end VXS
end
section
/-! A judgement over the system's own world: cell i of it lies at base + i; values are numbers, .ref i (cell i), .retAddr j (static row j). -/
abbrev PE : Type := (FieldType × vp_A) ⊕ (Nat × List Value)
abbrev PH : Type := List PE
/-- a method: name, code, maxLocals, what it returns, frames and locals that it needs below it -/
abbrev MD : Type := MethodName × ByteArray × Nat × Option FieldType × Nat × Nat
abbrev mcode (M : MD) : ByteArray := M.2.1
abbrev mxl (M : MD) : Nat := M.2.2.1
abbrev mret (M : MD) : Option FieldType := M.2.2.2.1
abbrev mfr (M : MD) : Nat := M.2.2.2.2.1
abbrev mlo (M : MD) : Nat := M.2.2.2.2.2
def pv (σ : Nat → Nat) (base : Nat) (v : Value) : Value := match v with
  | .ref i => .ref (base + i)
  | .retAddr j => .ref (σ j)
  | w => w
def lw_good : List Cond := lw_tbl.filter goodWord
def pws (M : MD) : List Cond := Cond.code M.1 (mcode M) (mxl M) (mret M) :: lw_good
def pat (D : va_G) (Y : FieldType → ClassId) (σ : Nat → Nat) (base i : Nat) (e : PE) (H : Heap) : Prop := match e with
  | .inl a => H[base + i]? = some (vp_cell (Y a.1) a.2)
  | .inr o => match vwCl[o.1]? with
    | some r => t_OB (base + i) (D.1 o.1) r.2.2 (D.2 o.1) H (vp_V (o.2.map (pv σ base)))
    | none => True
def pwd (D : va_G) (Y : FieldType → ClassId) (σ : Nat → Nat) (base : Nat) (h : PH) (H : Heap) : Prop := H.size = base + h.length ∧ ∀ (i : Nat) (e : PE), h[i]? = some e → pat D Y σ base i e H
/-- the static rows: the class's four tables, and the script -/
def ptab (Γ : Nat × (Nat → Int32)) (j : Nat) : Nat × (Nat → Int32) := match j with
  | 0 => (5, fun k => ([0, 1, 16, 1, 1] : List Int32).getD k 0)
  | 1 => (5, fun k => ([0, 0, 256, 0, 0] : List Int32).getD k 0)
  | 2 => (5, fun k => ([1, 2, 2, 4, 64] : List Int32).getD k 0)
  | 3 => (5, fun k => ([0, 0, 256, 1024, 512] : List Int32).getD k 0)
  | _ => Γ
def pnam (j : Nat) : String := match j with
  | 0 => "FILTER_STEPS"
  | 1 => "FILTER_MEMORY"
  | 2 => "PACKER_STEPS"
  | _ => "PACKER_MEMORY"
abbrev pA (base : Nat) : Nat → Prop := fun q => base ≤ q
def pnest : List Cond := lw_tbl.filter (fun w => match w with
  | .fieldLinkNest _ _ _ _ _ _ => true
  | .methodLinkNest _ _ _ _ => true
  | .castable _ _ => true
  | .declares _ => true
  | _ => false)
/-- launches without stack traces -/
abbrev LC : Type := {l : Launch // l.stackTraces = false}
/-- what a throw of the class needs: its text, and two statics of Throwable -/
def pexc (U : State) (base : Nat) : Prop := (∃ sa, vk_R "ChainChoice" 183 "a share of 0" sa U) ∧ vx_Zq Bundle.tN "UNASSIGNED_STACK" Bundle.steD (pA base) U U.heap ∧ vx_Zq Bundle.tN "SUPPRESSED_SENTINEL" Bundle.listD (pA base) U U.heap
def penv (Γ : Nat × (Nat → Int32)) (U : State) (D : va_G) (Y : FieldType → ClassId) (σ : Nat → Nat) (base : Nat) : Prop :=
  (base ≤ U.heap.size ∧ pexc U base) ∧ va_K D vwCl [(Y .int, .int), (Y .long, .long)] U ∧ (∀ w ∈ pnest, va_Nw w U) ∧ (∀ j, j < 4 → va_Z "ChainChoice" (pnam j) "[I" (.ref (σ j)) (pA base) U U.heap) ∧ ∀ j, j < 5 → va_T .int (σ j) (ptab Γ j).1 (fun k => .int ((ptab Γ j).2 k)) (pA base) U U.heap
def pcx (Γ : Nat × (Nat → Int32)) (M : MD) (p : Program) (R : Room) (s : State) (m : MethodId) (args : Array Value) (meth : Method) (c : Code) (D : va_G) (Y : FieldType → ClassId) (σ : Nat → Nat) (base : Nat) : Prop :=
  p.tables.exec = Jvm.exec ∧ c.code = mcode M ∧ meth.sig.returnType = mret M ∧ c.maxLocals = mxl M ∧ s.vm.findClass M.1.cls = some m.cls ∧ (∀ w ∈ lw_good, w.before args s = true) ∧ meth.locks = false ∧ meth.name = M.1.name ∧ mfr M ≤ R.frames ∧ mlo M ≤ R.locals ∧ penv Γ s D Y σ base
def plv (σ : Nat → Nat) (base : Nat) (ls : Array Slot) (nL : Nat) (l : List Value) : Prop := ls.size = nL ∧ lv_wf ls ∧ ∀ (i : Nat) (v : Value), l[i]? = some v → ¬ v = .float 0 → ls[i]? = some (.val (pv σ base v))
def pret (M : MD) (pc : Nat) (r : Option Value) : Prop := match r with
  | none => decode (mcode M) pc = .ok (.return_, 1) ∧ mret M = none
  | some (.int x) => decode (mcode M) pc = .ok (.ireturn, 1) ∧ (mret M = some .int ∨ (mret M = some .boolean ∧ narrow .boolean (.int x) = .int x))
  | some (.long _) => decode (mcode M) pc = .ok (.lreturn, 1) ∧ mret M = some .long
  | some (.ref _) => decode (mcode M) pc = .ok (.areturn, 1) ∧ ∃ C, mret M = some (.object C)
  | _ => False
def PW (Γ : Nat × (Nat → Int32)) (M : MD) (pc : Nat) (l st : List Value) (h : PH) (bc bs : Nat) (Q : Option Value → PH → Prop) : Prop :=
  ∀ (p : Program) (lc : LC) (e : Env) (R : Room) (s : State) (m : MethodId) (args : Array Value) (below : List Frame) (meth : Method) (c : Code) (D : va_G) (Y : FieldType → ClassId) (σ : Nat → Nat) (base : Nat) (H : Heap) (locs : List Loc) (cells slots : Nat) (ls : Array Slot) (Z : State → Prop),
    pcx Γ M p R s m args meth c D Y σ base → pwd D Y σ base h H → va_S (pA base) s.heap H locs → plv σ base ls (mxl M) l → cells + bc ≤ R.cells → slots + bs ≤ R.slots →
    (∀ (r : Option Value) (h' : PH) (H' : Heap) (locs' : List Loc) (cells' slots' : Nat) (ls' : Array Slot) (pc' : Nat), Q r h' → pwd D Y σ base h' H' → va_S (pA base) s.heap H' locs' → cells' ≤ cells + bc → slots' ≤ slots + bs → pret M pc' r → W p lc.1 e R s m args below meth c H' locs' cells' slots' Z (F0 m pc' ls' ((r.map (pv σ base)).toList))) →
    W p lc.1 e R s m args below meth c H locs cells slots Z (F0 m pc ls (st.map (pv σ base)))
def PM (Γ : Nat × (Nat → Int32)) (M : MD) (as : List Value) (h : PH) (bc bs : Nat) (Q : Option Value → PH → Prop) : Prop :=
  ∀ (lc : LC) (D : va_G) (Y : FieldType → ClassId) (σ : Nat → Nat) (base : Nat),
    Met lc.1 M.1 (pws M) { frames := mfr M, cells := bc, slots := bs, locals := mlo M } (va_Pc (as.map (pv σ base)) (fun U => pwd D Y σ base h U.heap ∧ penv Γ U D Y σ base))
      (fun _ st oc t => (∃ (r : Option Value) (h' : PH), Q r h' ∧ oc = .returned (r.map (pv σ base)) ∧ pwd D Y σ base h' t.heap) ∧ va_F (pA base) st t) bc bs (pA base)
theorem pv_cat (σ : Nat → Nat) (base : Nat) (v : Value) : (pv σ base v).category = v.category := by cases v <;> rfl
theorem pv_int (σ : Nat → Nat) (base : Nat) (x : Int32) : pv σ base (.int x) = .int x := rfl
theorem pv_long (σ : Nat → Nat) (base : Nat) (x : Int64) : pv σ base (.long x) = .long x := rfl
theorem pv_ref (σ : Nat → Nat) (base i : Nat) : pv σ base (.ref i) = .ref (base + i) := rfl
theorem lw_good_in : ∀ w ∈ lw_good, w ∈ lw_tbl := fun w h => (List.mem_filter.mp h).1
theorem lw_good_good : ∀ w ∈ lw_good, goodWord w = true := fun w h => (List.mem_filter.mp h).2
theorem lw_mem {w : Cond} (h : w ∈ lw_tbl) (g : goodWord w = true) : w ∈ lw_good := List.mem_filter.mpr ⟨h, g⟩
theorem pws_good {M : MD} (hc : Cond.code M.1 (mcode M) (mxl M) (mret M) ∈ lw_good) : GoodIn lw_good (pws M) := by
  intro w hw
  rcases List.mem_cons.mp hw with rfl | h
  · exact ⟨hc, good_of_word (lw_good_good _ hc)⟩
  · exact ⟨h, good_of_word (lw_good_good _ h)⟩
theorem penv_moved {Γ : Nat × (Nat → Int32)} {s U : State} {D : va_G} {Y : FieldType → ClassId} {σ : Nat → Nat} {base : Nat} {locs : List Loc} (hW : s.WarmedH U.vm) (hS : va_S (pA base) s.heap U.heap locs) (h : penv Γ s D Y σ base) : penv Γ U D Y σ base := by
  obtain ⟨h0, h1, h2, h3, h4⟩ := h
  obtain ⟨h0, ⟨sa, x1⟩, x2, x3⟩ := h0
  refine ⟨⟨Nat.le_trans h0 hS.1, ⟨sa, vk_R.warm hW x1⟩, (vx_Zq.moved hW.alike x2).kept hS.2.1, (vx_Zq.moved hW.alike x3).kept hS.2.1⟩, va_K.moved hW.alike h1, fun w hw => ?_, fun j hj => ((h3 j hj).moved hW.alike).kept hS.2.1, fun j hj => ((h4 j hj).moved hW.alike).kept hS.2.1⟩
  have h9 := (List.mem_filter.mp hw).2
  have h8 := h2 w hw
  cases w <;> first | exact absurd h9 Bool.false_ne_true | exact va_Nw.warmF hW h8 | exact va_Nw.warmM hW h8 | exact va_Nw.warmC hW h8 | exact va_Nw.warmD hW h8
theorem penv_vm {Γ : Nat × (Nat → Int32)} {s U : State} {D : va_G} {Y : FieldType → ClassId} {σ : Nat → Nat} {base : Nat} (hv : s.vm = U.vm) (hH : s.heap = U.heap) (h : penv Γ s D Y σ base) : penv Γ U D Y σ base := by
  obtain ⟨h0, h1, h2, h3, h4⟩ := h
  have ha : s.vm.Alike U.vm := by rw [hv]; exact Vm.Alike.refl _
  obtain ⟨h0, ⟨sa, x1⟩, x2, x3⟩ := h0
  refine ⟨⟨by rw [← hH]; exact h0, ⟨sa, vk_R.same hv.symm x1⟩, by rw [← hH]; exact vx_Zq.moved ha x2, by rw [← hH]; exact vx_Zq.moved ha x3⟩, va_K.moved ha h1, fun w hw => ?_, fun j hj => by rw [← hH]; exact (h3 j hj).moved ha, fun j hj => by rw [← hH]; exact (h4 j hj).moved ha⟩
  have h9 := (List.mem_filter.mp hw).2
  have h8 := h2 w hw
  cases w <;> first | exact absurd h9 Bool.false_ne_true | exact va_Nw.same rfl hv h8
/-- the locals with which a method begins -/
theorem plv_entry {σ : Nat → Nat} {base n : Nat} (as : List Value) (hc : ∀ v ∈ as, v.category = 1) (hn : as.length ≤ n) :
    plv σ base ((lg_sl (as.map (pv σ base)) ++ List.replicate (n - (lg_sl (as.map (pv σ base))).length) Slot.unset).toArray) n (as ++ List.replicate (n - as.length) (.float 0)) := by
  have key : ∀ (vs : List Value), (∀ v ∈ vs, v.category = 1) → lg_sl vs = vs.map Slot.val := by
    intro vs
    induction vs with
    | nil => intro _; rfl
    | cons a r ih =>
      intro h
      have h1 : a.category = 1 := h a List.mem_cons_self
      show (if a.category = 2 then [Slot.val a, .second] else [.val a]) ++ lg_sl r = _
      rw [ih (fun v hv => h v (List.mem_cons_of_mem _ hv)), if_neg (by omega)]
      rfl
  have hk := key (as.map (pv σ base)) (fun v hv => by
    obtain ⟨w, h1, rfl⟩ := List.mem_map.mp hv
    rw [pv_cat]
    exact hc w h1)
  have he := lv_entry (as.map (pv σ base)) (n := n) (by rw [hk]; simpa using hn)
  refine ⟨he.1, he.2.1, fun i v hv hf => ?_⟩
  rw [hk]
  by_cases hi : i < as.length
  · rw [List.getElem?_append_left hi] at hv
    simp [hi, List.getElem?_append_left, hv]
    have := (List.getElem?_eq_some_iff.mp hv).2
    rw [this]
  · rw [List.getElem?_append_right (by omega)] at hv
    have := List.mem_of_getElem? hv
    rw [List.mem_replicate] at this
    exact absurd this.2 hf
theorem PM.of {Γ : Nat × (Nat → Int32)} {M : MD} {as : List Value} {h : PH} {bc bs : Nat} {Q : Option Value → PH → Prop} (hy : plainName M.1.cls = true) (hc : ∀ v ∈ as, v.category = 1) (hn : as.length ≤ mxl M)
    (hw : PW Γ M 0 (as ++ List.replicate (mxl M - as.length) (.float 0)) [] h bc bs Q) : PM Γ M as h bc bs Q := by
  intro lc D Y σ base
  refine Met.ofW (cc := mcode M) (maxL := mxl M) (ret := mret M) hy rfl ?_
  intro p e s m args below meth c s₁ B hml hv
  obtain ⟨rfl, hP, hE⟩ := hv
  have hts := atoms_spec (ws := pws M) B.pre
  have hnm : meth.name = M.1.name := (name_of_methodNamed B.named B.method).1
  rw [lg_entry_eq]
  have hlk := B.notSynchronized
  refine hw p lc e _ s m _ below meth c D Y σ base s.heap [] 0 0 _ _ ⟨B.exec, B.bytes, B.returns, hml, findClass_of_methodNamed B.named, fun w hw => hts w (List.mem_cons_of_mem _ hw), hlk, hnm, Nat.le_refl _, Nat.le_refl _, hE⟩ hP va_S.rf (plv_entry as hc hn) (by show 0 + bc ≤ bc; omega) (by show 0 + bs ≤ bs; omega) ?_
  intro r h' H' locs' cells' slots' ls' pc' hQ hP' hS' hc' hs' hret
  refine W.widen (k := bc) (n := bs) (by omega) (by omega) ?_
  match r, hQ, hret with
  | none, hQ, hret =>
    exact W.vret B.exec B.bytes (B.returns.trans hret.2) (fun t ht hW => ⟨⟨none, h', hQ, rfl, by rw [ht]; exact hP'⟩, hS'.F ht⟩) hS'.2.2 hret.1 hlk
  | some (.int x), hQ, hret =>
    rcases hret.2 with hr | ⟨hr, hx⟩
    · exact W.iret B.exec B.bytes (B.returns.trans hr) (fun t ht hW => ⟨⟨some (.int x), h', hQ, rfl, by rw [ht]; exact hP'⟩, hS'.F ht⟩) hS'.2.2 hret.1 hlk
    · exact W.zret B.exec B.bytes (B.returns.trans hr) hx (fun t ht hW => ⟨⟨some (.int x), h', hQ, rfl, by rw [ht]; exact hP'⟩, hS'.F ht⟩) hS'.2.2 hret.1 hlk
  | some (.long x), hQ, hret =>
    exact W.lret B.exec B.bytes (B.returns.trans hret.2) (fun t ht hW => ⟨⟨some (.long x), h', hQ, rfl, by rw [ht]; exact hP'⟩, hS'.F ht⟩) hS'.2.2 hret.1 hlk
  | some (.ref x), hQ, hret =>
    obtain ⟨C, hr⟩ := hret.2
    exact W.aret B.exec B.bytes (B.returns.trans hr) (Or.inl ⟨C, rfl⟩) (Or.inr ⟨_, rfl⟩) (fun t ht hW => ⟨⟨some (.ref x), h', hQ, rfl, by rw [ht]; exact hP'⟩, hS'.F ht⟩) hS'.2.2 hret.1 hlk
  | some .null, hQ, hret => exact hret.elim
  | some (.float _), hQ, hret => exact hret.elim
  | some (.double _), hQ, hret => exact hret.elim
  | some (.retAddr _), hQ, hret => exact hret.elim
end

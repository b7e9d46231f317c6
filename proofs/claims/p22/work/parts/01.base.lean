section
/-- a private method of a class that the tables say can be made, by its rows of tables_1 -/
def lw_okq (q : MethodName × Nat) : Prop := (q.1.cls ≠ "java/lang/invoke/MethodHandle" ∧ q.1.cls ≠ "java/lang/invoke/VarHandle") ∧ Cond.instantiable q.1.cls q.2 ∈ tables_1 ∧ Cond.privateMethod q.1 ∈ tables_1 ∧ Cond.instanceMethod q.1 ∈ tables_1
theorem lw_p0 : lw_okq (⟨"ChainChoice", "rowOf", "(I)LChainChoice$Row;"⟩, 14) := ⟨⟨by decide +kernel, by decide +kernel⟩, List.mem_of_getElem? (i := 21) (by decide +kernel), List.mem_of_getElem? (i := 339) (by decide +kernel), List.mem_of_getElem? (i := 340) (by decide +kernel)⟩
theorem lw_p1 : lw_okq (⟨"ChainChoice", "dropChoices", "()V"⟩, 14) := ⟨⟨by decide +kernel, by decide +kernel⟩, List.mem_of_getElem? (i := 21) (by decide +kernel), List.mem_of_getElem? (i := 370) (by decide +kernel), List.mem_of_getElem? (i := 371) (by decide +kernel)⟩
theorem lw_p2 : lw_okq (⟨"ChainChoice", "writeHead", "(ILChainChoice$Row;)V"⟩, 14) := ⟨⟨by decide +kernel, by decide +kernel⟩, List.mem_of_getElem? (i := 21) (by decide +kernel), List.mem_of_getElem? (i := 460) (by decide +kernel), List.mem_of_getElem? (i := 461) (by decide +kernel)⟩
theorem lw_p3 : lw_okq (⟨"ChainChoice", "filtered", "(I)LChainChoice$Row;"⟩, 14) := ⟨⟨by decide +kernel, by decide +kernel⟩, List.mem_of_getElem? (i := 21) (by decide +kernel), List.mem_of_getElem? (i := 470) (by decide +kernel), List.mem_of_getElem? (i := 471) (by decide +kernel)⟩
theorem lw_p4 : lw_okq (⟨"ChainChoice$Filters", "startOrder", "()V"⟩, 1) := ⟨⟨by decide +kernel, by decide +kernel⟩, List.mem_of_getElem? (i := 65) (by decide +kernel), List.mem_of_getElem? (i := 495) (by decide +kernel), List.mem_of_getElem? (i := 496) (by decide +kernel)⟩
theorem lw_p5 : lw_okq (⟨"ChainChoice$Filters", "bringToFront", "(I)I"⟩, 1) := ⟨⟨by decide +kernel, by decide +kernel⟩, List.mem_of_getElem? (i := 65) (by decide +kernel), List.mem_of_getElem? (i := 499) (by decide +kernel), List.mem_of_getElem? (i := 500) (by decide +kernel)⟩
theorem lw_p6 : lw_okq (⟨"ChainChoice$Packers", "writeBits", "(LChainChoice$Row;LChainChoice$Row;)V"⟩, 9) := ⟨⟨by decide +kernel, by decide +kernel⟩, List.mem_of_getElem? (i := 75) (by decide +kernel), List.mem_of_getElem? (i := 529) (by decide +kernel), List.mem_of_getElem? (i := 530) (by decide +kernel)⟩
theorem lw_p7 : lw_okq (⟨"ChainChoice$Packers", "writePrefix", "(LChainChoice$Row;LChainChoice$Row;)V"⟩, 9) := ⟨⟨by decide +kernel, by decide +kernel⟩, List.mem_of_getElem? (i := 75) (by decide +kernel), List.mem_of_getElem? (i := 550) (by decide +kernel), List.mem_of_getElem? (i := 551) (by decide +kernel)⟩
theorem lw_p8 : lw_okq (⟨"ChainChoice$Tree", "sortLeaves", "([I)V"⟩, 7) := ⟨⟨by decide +kernel, by decide +kernel⟩, List.mem_of_getElem? (i := 94) (by decide +kernel), List.mem_of_getElem? (i := 563) (by decide +kernel), List.mem_of_getElem? (i := 564) (by decide +kernel)⟩
theorem lw_p9 : lw_okq (⟨"ChainChoice$Tree", "join", "()V"⟩, 7) := ⟨⟨by decide +kernel, by decide +kernel⟩, List.mem_of_getElem? (i := 94) (by decide +kernel), List.mem_of_getElem? (i := 571) (by decide +kernel), List.mem_of_getElem? (i := 572) (by decide +kernel)⟩
theorem lw_p10 : lw_okq (⟨"ChainChoice$Tree", "takeLeast", "(I)I"⟩, 7) := ⟨⟨by decide +kernel, by decide +kernel⟩, List.mem_of_getElem? (i := 94) (by decide +kernel), List.mem_of_getElem? (i := 575) (by decide +kernel), List.mem_of_getElem? (i := 576) (by decide +kernel)⟩
theorem lw_p11 : lw_okq (⟨"ChainChoice$Tree", "measure", "(LChainChoice$PrefixCode;)V"⟩, 7) := ⟨⟨by decide +kernel, by decide +kernel⟩, List.mem_of_getElem? (i := 94) (by decide +kernel), List.mem_of_getElem? (i := 579) (by decide +kernel), List.mem_of_getElem? (i := 580) (by decide +kernel)⟩
theorem lw_p12 : lw_okq (⟨"ChainChoice$PrefixCode", "rank", "()V"⟩, 6) := ⟨⟨by decide +kernel, by decide +kernel⟩, List.mem_of_getElem? (i := 122) (by decide +kernel), List.mem_of_getElem? (i := 589) (by decide +kernel), List.mem_of_getElem? (i := 590) (by decide +kernel)⟩
theorem lw_p13 : lw_okq (⟨"ChainChoice$Packers", "writeMatches", "(LChainChoice$Row;LChainChoice$Row;)V"⟩, 9) := ⟨⟨by decide +kernel, by decide +kernel⟩, List.mem_of_getElem? (i := 75) (by decide +kernel), List.mem_of_getElem? (i := 602) (by decide +kernel), List.mem_of_getElem? (i := 603) (by decide +kernel)⟩
theorem lw_p14 : lw_okq (⟨"ChainChoice$Packers", "linkLikeBytes", "(LChainChoice$Row;)V"⟩, 9) := ⟨⟨by decide +kernel, by decide +kernel⟩, List.mem_of_getElem? (i := 75) (by decide +kernel), List.mem_of_getElem? (i := 606) (by decide +kernel), List.mem_of_getElem? (i := 607) (by decide +kernel)⟩
theorem lw_p15 : lw_okq (⟨"ChainChoice$Packers", "findMatch", "(LChainChoice$Row;I)V"⟩, 9) := ⟨⟨by decide +kernel, by decide +kernel⟩, List.mem_of_getElem? (i := 75) (by decide +kernel), List.mem_of_getElem? (i := 611) (by decide +kernel), List.mem_of_getElem? (i := 612) (by decide +kernel)⟩
def lw_privs_1 : List (MethodName × Nat) := [(⟨"ChainChoice", "rowOf", "(I)LChainChoice$Row;"⟩, 14), (⟨"ChainChoice", "dropChoices", "()V"⟩, 14), (⟨"ChainChoice", "writeHead", "(ILChainChoice$Row;)V"⟩, 14), (⟨"ChainChoice", "filtered", "(I)LChainChoice$Row;"⟩, 14), (⟨"ChainChoice$Filters", "startOrder", "()V"⟩, 1), (⟨"ChainChoice$Filters", "bringToFront", "(I)I"⟩, 1), (⟨"ChainChoice$Packers", "writeBits", "(LChainChoice$Row;LChainChoice$Row;)V"⟩, 9), (⟨"ChainChoice$Packers", "writePrefix", "(LChainChoice$Row;LChainChoice$Row;)V"⟩, 9), (⟨"ChainChoice$Tree", "sortLeaves", "([I)V"⟩, 7), (⟨"ChainChoice$Tree", "join", "()V"⟩, 7), (⟨"ChainChoice$Tree", "takeLeast", "(I)I"⟩, 7), (⟨"ChainChoice$Tree", "measure", "(LChainChoice$PrefixCode;)V"⟩, 7), (⟨"ChainChoice$PrefixCode", "rank", "()V"⟩, 6), (⟨"ChainChoice$Packers", "writeMatches", "(LChainChoice$Row;LChainChoice$Row;)V"⟩, 9), (⟨"ChainChoice$Packers", "linkLikeBytes", "(LChainChoice$Row;)V"⟩, 9), (⟨"ChainChoice$Packers", "findMatch", "(LChainChoice$Row;I)V"⟩, 9)]
theorem lw_r1 : ∀ q ∈ lw_privs_1, lw_okq q := List.forall_mem_cons.mpr ⟨lw_p0, List.forall_mem_cons.mpr ⟨lw_p1, List.forall_mem_cons.mpr ⟨lw_p2, List.forall_mem_cons.mpr ⟨lw_p3, List.forall_mem_cons.mpr ⟨lw_p4, List.forall_mem_cons.mpr ⟨lw_p5, List.forall_mem_cons.mpr ⟨lw_p6, List.forall_mem_cons.mpr ⟨lw_p7, List.forall_mem_cons.mpr ⟨lw_p8, List.forall_mem_cons.mpr ⟨lw_p9, List.forall_mem_cons.mpr ⟨lw_p10, List.forall_mem_cons.mpr ⟨lw_p11, List.forall_mem_cons.mpr ⟨lw_p12, List.forall_mem_cons.mpr ⟨lw_p13, List.forall_mem_cons.mpr ⟨lw_p14, List.forall_mem_cons.mpr ⟨lw_p15, fun _ h => absurd h List.not_mem_nil⟩⟩⟩⟩⟩⟩⟩⟩⟩⟩⟩⟩⟩⟩⟩⟩
theorem lw_p16 : lw_okq (⟨"ChainChoice$Packers", "before", "(I)I"⟩, 9) := ⟨⟨by decide +kernel, by decide +kernel⟩, List.mem_of_getElem? (i := 75) (by decide +kernel), List.mem_of_getElem? (i := 615) (by decide +kernel), List.mem_of_getElem? (i := 616) (by decide +kernel)⟩
theorem lw_p17 : lw_okq (⟨"ChainChoice$Packers", "endOfPlain", "(LChainChoice$Row;I)I"⟩, 9) := ⟨⟨by decide +kernel, by decide +kernel⟩, List.mem_of_getElem? (i := 75) (by decide +kernel), List.mem_of_getElem? (i := 620) (by decide +kernel), List.mem_of_getElem? (i := 621) (by decide +kernel)⟩
theorem lw_p18 : lw_okq (⟨"ChainChoice", "tryChains", "(II)V"⟩, 14) := ⟨⟨by decide +kernel, by decide +kernel⟩, List.mem_of_getElem? (i := 21) (by decide +kernel), List.mem_of_getElem? (i := 634) (by decide +kernel), List.mem_of_getElem? (i := 635) (by decide +kernel)⟩
theorem lw_p19 : lw_okq (⟨"ChainChoice", "isBetter", "(II)Z"⟩, 14) := ⟨⟨by decide +kernel, by decide +kernel⟩, List.mem_of_getElem? (i := 21) (by decide +kernel), List.mem_of_getElem? (i := 639) (by decide +kernel), List.mem_of_getElem? (i := 640) (by decide +kernel)⟩
theorem lw_p20 : lw_okq (⟨"ChainChoice$Traits", "variety", "(LChainChoice$Row;)I"⟩, 1) := ⟨⟨by decide +kernel, by decide +kernel⟩, List.mem_of_getElem? (i := 248) (by decide +kernel), List.mem_of_getElem? (i := 659) (by decide +kernel), List.mem_of_getElem? (i := 660) (by decide +kernel)⟩
theorem lw_p21 : lw_okq (⟨"ChainChoice$Unpacker", "readFilters", "()V"⟩, 11) := ⟨⟨by decide +kernel, by decide +kernel⟩, List.mem_of_getElem? (i := 175) (by decide +kernel), List.mem_of_getElem? (i := 705) (by decide +kernel), List.mem_of_getElem? (i := 706) (by decide +kernel)⟩
theorem lw_p22 : lw_okq (⟨"ChainChoice$Reader", "blameAt", "(II)V"⟩, 6) := ⟨⟨by decide +kernel, by decide +kernel⟩, List.mem_of_getElem? (i := 181) (by decide +kernel), List.mem_of_getElem? (i := 715) (by decide +kernel), List.mem_of_getElem? (i := 716) (by decide +kernel)⟩
theorem lw_p23 : lw_okq (⟨"ChainChoice$Unpacker", "readItems", "()V"⟩, 11) := ⟨⟨by decide +kernel, by decide +kernel⟩, List.mem_of_getElem? (i := 175) (by decide +kernel), List.mem_of_getElem? (i := 736) (by decide +kernel), List.mem_of_getElem? (i := 737) (by decide +kernel)⟩
theorem lw_p24 : lw_okq (⟨"ChainChoice$Unpacker", "copy", "(I)V"⟩, 11) := ⟨⟨by decide +kernel, by decide +kernel⟩, List.mem_of_getElem? (i := 175) (by decide +kernel), List.mem_of_getElem? (i := 741) (by decide +kernel), List.mem_of_getElem? (i := 742) (by decide +kernel)⟩
theorem lw_p25 : lw_okq (⟨"ChainChoice$Unpacker", "repeat", "(I)V"⟩, 11) := ⟨⟨by decide +kernel, by decide +kernel⟩, List.mem_of_getElem? (i := 175) (by decide +kernel), List.mem_of_getElem? (i := 746) (by decide +kernel), List.mem_of_getElem? (i := 747) (by decide +kernel)⟩
theorem lw_p26 : lw_okq (⟨"ChainChoice$Unpacker", "copyBack", "(I)V"⟩, 11) := ⟨⟨by decide +kernel, by decide +kernel⟩, List.mem_of_getElem? (i := 175) (by decide +kernel), List.mem_of_getElem? (i := 750) (by decide +kernel), List.mem_of_getElem? (i := 751) (by decide +kernel)⟩
theorem lw_p27 : lw_okq (⟨"ChainChoice$Unpacker", "readBits", "()V"⟩, 11) := ⟨⟨by decide +kernel, by decide +kernel⟩, List.mem_of_getElem? (i := 175) (by decide +kernel), List.mem_of_getElem? (i := 755) (by decide +kernel), List.mem_of_getElem? (i := 756) (by decide +kernel)⟩
theorem lw_p28 : lw_okq (⟨"ChainChoice$Unpacker", "readRising", "(I)I"⟩, 11) := ⟨⟨by decide +kernel, by decide +kernel⟩, List.mem_of_getElem? (i := 175) (by decide +kernel), List.mem_of_getElem? (i := 759) (by decide +kernel), List.mem_of_getElem? (i := 760) (by decide +kernel)⟩
theorem lw_p29 : lw_okq (⟨"ChainChoice$Unpacker", "readPrefix", "()V"⟩, 11) := ⟨⟨by decide +kernel, by decide +kernel⟩, List.mem_of_getElem? (i := 175) (by decide +kernel), List.mem_of_getElem? (i := 774) (by decide +kernel), List.mem_of_getElem? (i := 775) (by decide +kernel)⟩
theorem lw_p30 : lw_okq (⟨"ChainChoice$Unpacker", "readLengths", "()V"⟩, 11) := ⟨⟨by decide +kernel, by decide +kernel⟩, List.mem_of_getElem? (i := 175) (by decide +kernel), List.mem_of_getElem? (i := 778) (by decide +kernel), List.mem_of_getElem? (i := 779) (by decide +kernel)⟩
theorem lw_p31 : lw_okq (⟨"ChainChoice$Unpacker", "undoFilters", "()V"⟩, 11) := ⟨⟨by decide +kernel, by decide +kernel⟩, List.mem_of_getElem? (i := 175) (by decide +kernel), List.mem_of_getElem? (i := 805) (by decide +kernel), List.mem_of_getElem? (i := 806) (by decide +kernel)⟩
def lw_privs_2 : List (MethodName × Nat) := [(⟨"ChainChoice$Packers", "before", "(I)I"⟩, 9), (⟨"ChainChoice$Packers", "endOfPlain", "(LChainChoice$Row;I)I"⟩, 9), (⟨"ChainChoice", "tryChains", "(II)V"⟩, 14), (⟨"ChainChoice", "isBetter", "(II)Z"⟩, 14), (⟨"ChainChoice$Traits", "variety", "(LChainChoice$Row;)I"⟩, 1), (⟨"ChainChoice$Unpacker", "readFilters", "()V"⟩, 11), (⟨"ChainChoice$Reader", "blameAt", "(II)V"⟩, 6), (⟨"ChainChoice$Unpacker", "readItems", "()V"⟩, 11), (⟨"ChainChoice$Unpacker", "copy", "(I)V"⟩, 11), (⟨"ChainChoice$Unpacker", "repeat", "(I)V"⟩, 11), (⟨"ChainChoice$Unpacker", "copyBack", "(I)V"⟩, 11), (⟨"ChainChoice$Unpacker", "readBits", "()V"⟩, 11), (⟨"ChainChoice$Unpacker", "readRising", "(I)I"⟩, 11), (⟨"ChainChoice$Unpacker", "readPrefix", "()V"⟩, 11), (⟨"ChainChoice$Unpacker", "readLengths", "()V"⟩, 11), (⟨"ChainChoice$Unpacker", "undoFilters", "()V"⟩, 11)]
theorem lw_r2 : ∀ q ∈ lw_privs_2, lw_okq q := List.forall_mem_cons.mpr ⟨lw_p16, List.forall_mem_cons.mpr ⟨lw_p17, List.forall_mem_cons.mpr ⟨lw_p18, List.forall_mem_cons.mpr ⟨lw_p19, List.forall_mem_cons.mpr ⟨lw_p20, List.forall_mem_cons.mpr ⟨lw_p21, List.forall_mem_cons.mpr ⟨lw_p22, List.forall_mem_cons.mpr ⟨lw_p23, List.forall_mem_cons.mpr ⟨lw_p24, List.forall_mem_cons.mpr ⟨lw_p25, List.forall_mem_cons.mpr ⟨lw_p26, List.forall_mem_cons.mpr ⟨lw_p27, List.forall_mem_cons.mpr ⟨lw_p28, List.forall_mem_cons.mpr ⟨lw_p29, List.forall_mem_cons.mpr ⟨lw_p30, List.forall_mem_cons.mpr ⟨lw_p31, fun _ h => absurd h List.not_mem_nil⟩⟩⟩⟩⟩⟩⟩⟩⟩⟩⟩⟩⟩⟩⟩⟩
theorem lw_p32 : lw_okq (⟨"ChainChoice$Filters", "takeToFront", "(I)I"⟩, 1) := ⟨⟨by decide +kernel, by decide +kernel⟩, List.mem_of_getElem? (i := 65) (by decide +kernel), List.mem_of_getElem? (i := 814) (by decide +kernel), List.mem_of_getElem? (i := 815) (by decide +kernel)⟩
theorem lw_p33 : lw_okq (⟨"java/lang/Throwable", "fillInStackTrace", "(I)Ljava/lang/Throwable;"⟩, 6) := ⟨⟨by decide +kernel, by decide +kernel⟩, List.mem_of_getElem? (i := 883) (by decide +kernel), List.mem_of_getElem? (i := 881) (by decide +kernel), List.mem_of_getElem? (i := 882) (by decide +kernel)⟩
theorem lw_p34 : lw_okq (⟨"ChainChoiceModel", "lose", "()V"⟩, 35) := ⟨⟨by decide +kernel, by decide +kernel⟩, List.mem_of_getElem? (i := 914) (by decide +kernel), List.mem_of_getElem? (i := 920) (by decide +kernel), List.mem_of_getElem? (i := 921) (by decide +kernel)⟩
theorem lw_p35 : lw_okq (⟨"ChainChoiceModel", "part", "(I)V"⟩, 35) := ⟨⟨by decide +kernel, by decide +kernel⟩, List.mem_of_getElem? (i := 914) (by decide +kernel), List.mem_of_getElem? (i := 1078) (by decide +kernel), List.mem_of_getElem? (i := 1079) (by decide +kernel)⟩
theorem lw_p36 : lw_okq (⟨"ChainChoiceModel", "stepsOf", "()I"⟩, 35) := ⟨⟨by decide +kernel, by decide +kernel⟩, List.mem_of_getElem? (i := 914) (by decide +kernel), List.mem_of_getElem? (i := 1082) (by decide +kernel), List.mem_of_getElem? (i := 1083) (by decide +kernel)⟩
theorem lw_p37 : lw_okq (⟨"ChainChoiceModel", "memoryOf", "()I"⟩, 35) := ⟨⟨by decide +kernel, by decide +kernel⟩, List.mem_of_getElem? (i := 914) (by decide +kernel), List.mem_of_getElem? (i := 1086) (by decide +kernel), List.mem_of_getElem? (i := 1087) (by decide +kernel)⟩
theorem lw_p38 : lw_okq (⟨"ChainChoiceModel", "packAll", "(I)V"⟩, 35) := ⟨⟨by decide +kernel, by decide +kernel⟩, List.mem_of_getElem? (i := 914) (by decide +kernel), List.mem_of_getElem? (i := 1090) (by decide +kernel), List.mem_of_getElem? (i := 1091) (by decide +kernel)⟩
theorem lw_p39 : lw_okq (⟨"ChainChoiceModel", "put", "(I)V"⟩, 35) := ⟨⟨by decide +kernel, by decide +kernel⟩, List.mem_of_getElem? (i := 914) (by decide +kernel), List.mem_of_getElem? (i := 1094) (by decide +kernel), List.mem_of_getElem? (i := 1095) (by decide +kernel)⟩
theorem lw_p40 : lw_okq (⟨"ChainChoiceModel", "putFilter", "(I)V"⟩, 35) := ⟨⟨by decide +kernel, by decide +kernel⟩, List.mem_of_getElem? (i := 914) (by decide +kernel), List.mem_of_getElem? (i := 1098) (by decide +kernel), List.mem_of_getElem? (i := 1099) (by decide +kernel)⟩
theorem lw_p41 : lw_okq (⟨"ChainChoiceModel", "apply", "(IIIZ)V"⟩, 35) := ⟨⟨by decide +kernel, by decide +kernel⟩, List.mem_of_getElem? (i := 914) (by decide +kernel), List.mem_of_getElem? (i := 1102) (by decide +kernel), List.mem_of_getElem? (i := 1103) (by decide +kernel)⟩
theorem lw_p42 : lw_okq (⟨"ChainChoiceModel", "beginList", "()V"⟩, 35) := ⟨⟨by decide +kernel, by decide +kernel⟩, List.mem_of_getElem? (i := 914) (by decide +kernel), List.mem_of_getElem? (i := 1106) (by decide +kernel), List.mem_of_getElem? (i := 1107) (by decide +kernel)⟩
theorem lw_p43 : lw_okq (⟨"ChainChoiceModel", "placeOf", "(I)I"⟩, 35) := ⟨⟨by decide +kernel, by decide +kernel⟩, List.mem_of_getElem? (i := 914) (by decide +kernel), List.mem_of_getElem? (i := 1110) (by decide +kernel), List.mem_of_getElem? (i := 1111) (by decide +kernel)⟩
theorem lw_p44 : lw_okq (⟨"ChainChoiceModel", "front", "(I)V"⟩, 35) := ⟨⟨by decide +kernel, by decide +kernel⟩, List.mem_of_getElem? (i := 914) (by decide +kernel), List.mem_of_getElem? (i := 1114) (by decide +kernel), List.mem_of_getElem? (i := 1115) (by decide +kernel)⟩
theorem lw_p45 : lw_okq (⟨"ChainChoiceModel", "packRuns", "(I)V"⟩, 35) := ⟨⟨by decide +kernel, by decide +kernel⟩, List.mem_of_getElem? (i := 914) (by decide +kernel), List.mem_of_getElem? (i := 1118) (by decide +kernel), List.mem_of_getElem? (i := 1119) (by decide +kernel)⟩
theorem lw_p46 : lw_okq (⟨"ChainChoiceModel", "like", "(II)I"⟩, 35) := ⟨⟨by decide +kernel, by decide +kernel⟩, List.mem_of_getElem? (i := 914) (by decide +kernel), List.mem_of_getElem? (i := 1122) (by decide +kernel), List.mem_of_getElem? (i := 1123) (by decide +kernel)⟩
theorem lw_p47 : lw_okq (⟨"ChainChoiceModel", "putRow", "(II)V"⟩, 35) := ⟨⟨by decide +kernel, by decide +kernel⟩, List.mem_of_getElem? (i := 914) (by decide +kernel), List.mem_of_getElem? (i := 1126) (by decide +kernel), List.mem_of_getElem? (i := 1127) (by decide +kernel)⟩
def lw_privs_3 : List (MethodName × Nat) := [(⟨"ChainChoice$Filters", "takeToFront", "(I)I"⟩, 1), (⟨"java/lang/Throwable", "fillInStackTrace", "(I)Ljava/lang/Throwable;"⟩, 6), (⟨"ChainChoiceModel", "lose", "()V"⟩, 35), (⟨"ChainChoiceModel", "part", "(I)V"⟩, 35), (⟨"ChainChoiceModel", "stepsOf", "()I"⟩, 35), (⟨"ChainChoiceModel", "memoryOf", "()I"⟩, 35), (⟨"ChainChoiceModel", "packAll", "(I)V"⟩, 35), (⟨"ChainChoiceModel", "put", "(I)V"⟩, 35), (⟨"ChainChoiceModel", "putFilter", "(I)V"⟩, 35), (⟨"ChainChoiceModel", "apply", "(IIIZ)V"⟩, 35), (⟨"ChainChoiceModel", "beginList", "()V"⟩, 35), (⟨"ChainChoiceModel", "placeOf", "(I)I"⟩, 35), (⟨"ChainChoiceModel", "front", "(I)V"⟩, 35), (⟨"ChainChoiceModel", "packRuns", "(I)V"⟩, 35), (⟨"ChainChoiceModel", "like", "(II)I"⟩, 35), (⟨"ChainChoiceModel", "putRow", "(II)V"⟩, 35)]
theorem lw_r3 : ∀ q ∈ lw_privs_3, lw_okq q := List.forall_mem_cons.mpr ⟨lw_p32, List.forall_mem_cons.mpr ⟨lw_p33, List.forall_mem_cons.mpr ⟨lw_p34, List.forall_mem_cons.mpr ⟨lw_p35, List.forall_mem_cons.mpr ⟨lw_p36, List.forall_mem_cons.mpr ⟨lw_p37, List.forall_mem_cons.mpr ⟨lw_p38, List.forall_mem_cons.mpr ⟨lw_p39, List.forall_mem_cons.mpr ⟨lw_p40, List.forall_mem_cons.mpr ⟨lw_p41, List.forall_mem_cons.mpr ⟨lw_p42, List.forall_mem_cons.mpr ⟨lw_p43, List.forall_mem_cons.mpr ⟨lw_p44, List.forall_mem_cons.mpr ⟨lw_p45, List.forall_mem_cons.mpr ⟨lw_p46, List.forall_mem_cons.mpr ⟨lw_p47, fun _ h => absurd h List.not_mem_nil⟩⟩⟩⟩⟩⟩⟩⟩⟩⟩⟩⟩⟩⟩⟩⟩
theorem lw_p48 : lw_okq (⟨"ChainChoiceModel", "packBits", "(I)V"⟩, 35) := ⟨⟨by decide +kernel, by decide +kernel⟩, List.mem_of_getElem? (i := 914) (by decide +kernel), List.mem_of_getElem? (i := 1130) (by decide +kernel), List.mem_of_getElem? (i := 1131) (by decide +kernel)⟩
theorem lw_p49 : lw_okq (⟨"ChainChoiceModel", "countBytes", "(I)I"⟩, 35) := ⟨⟨by decide +kernel, by decide +kernel⟩, List.mem_of_getElem? (i := 914) (by decide +kernel), List.mem_of_getElem? (i := 1134) (by decide +kernel), List.mem_of_getElem? (i := 1135) (by decide +kernel)⟩
theorem lw_p50 : lw_okq (⟨"ChainChoiceModel", "bits", "(II)V"⟩, 35) := ⟨⟨by decide +kernel, by decide +kernel⟩, List.mem_of_getElem? (i := 914) (by decide +kernel), List.mem_of_getElem? (i := 1141) (by decide +kernel), List.mem_of_getElem? (i := 1142) (by decide +kernel)⟩
theorem lw_p51 : lw_okq (⟨"ChainChoiceModel", "packPrefix", "(I)V"⟩, 35) := ⟨⟨by decide +kernel, by decide +kernel⟩, List.mem_of_getElem? (i := 914) (by decide +kernel), List.mem_of_getElem? (i := 1145) (by decide +kernel), List.mem_of_getElem? (i := 1146) (by decide +kernel)⟩
theorem lw_p52 : lw_okq (⟨"ChainChoiceModel", "findLengths", "(I)V"⟩, 35) := ⟨⟨by decide +kernel, by decide +kernel⟩, List.mem_of_getElem? (i := 914) (by decide +kernel), List.mem_of_getElem? (i := 1149) (by decide +kernel), List.mem_of_getElem? (i := 1150) (by decide +kernel)⟩
theorem lw_p53 : lw_okq (⟨"ChainChoiceModel", "least", "(II)I"⟩, 35) := ⟨⟨by decide +kernel, by decide +kernel⟩, List.mem_of_getElem? (i := 914) (by decide +kernel), List.mem_of_getElem? (i := 1153) (by decide +kernel), List.mem_of_getElem? (i := 1154) (by decide +kernel)⟩
theorem lw_p54 : lw_okq (⟨"ChainChoiceModel", "findCodes", "()V"⟩, 35) := ⟨⟨by decide +kernel, by decide +kernel⟩, List.mem_of_getElem? (i := 914) (by decide +kernel), List.mem_of_getElem? (i := 1157) (by decide +kernel), List.mem_of_getElem? (i := 1158) (by decide +kernel)⟩
theorem lw_p55 : lw_okq (⟨"ChainChoiceModel", "packMatches", "(I)V"⟩, 35) := ⟨⟨by decide +kernel, by decide +kernel⟩, List.mem_of_getElem? (i := 914) (by decide +kernel), List.mem_of_getElem? (i := 1161) (by decide +kernel), List.mem_of_getElem? (i := 1162) (by decide +kernel)⟩
theorem lw_p56 : lw_okq (⟨"ChainChoiceModel", "match", "(II)V"⟩, 35) := ⟨⟨by decide +kernel, by decide +kernel⟩, List.mem_of_getElem? (i := 914) (by decide +kernel), List.mem_of_getElem? (i := 1165) (by decide +kernel), List.mem_of_getElem? (i := 1166) (by decide +kernel)⟩
theorem lw_p57 : lw_okq (⟨"ChainChoiceModel", "isFlat", "()Z"⟩, 35) := ⟨⟨by decide +kernel, by decide +kernel⟩, List.mem_of_getElem? (i := 914) (by decide +kernel), List.mem_of_getElem? (i := 1173) (by decide +kernel), List.mem_of_getElem? (i := 1174) (by decide +kernel)⟩
theorem lw_p58 : lw_okq (⟨"ChainChoiceModel", "next", "()I"⟩, 35) := ⟨⟨by decide +kernel, by decide +kernel⟩, List.mem_of_getElem? (i := 914) (by decide +kernel), List.mem_of_getElem? (i := 1215) (by decide +kernel), List.mem_of_getElem? (i := 1216) (by decide +kernel)⟩
theorem lw_p59 : lw_okq (⟨"ChainChoiceModel", "fail", "(II)V"⟩, 35) := ⟨⟨by decide +kernel, by decide +kernel⟩, List.mem_of_getElem? (i := 914) (by decide +kernel), List.mem_of_getElem? (i := 1219) (by decide +kernel), List.mem_of_getElem? (i := 1220) (by decide +kernel)⟩
theorem lw_p60 : lw_okq (⟨"ChainChoiceModel", "must", "(ZI)V"⟩, 35) := ⟨⟨by decide +kernel, by decide +kernel⟩, List.mem_of_getElem? (i := 914) (by decide +kernel), List.mem_of_getElem? (i := 1223) (by decide +kernel), List.mem_of_getElem? (i := 1224) (by decide +kernel)⟩
theorem lw_p61 : lw_okq (⟨"ChainChoiceModel", "come", "(I)V"⟩, 35) := ⟨⟨by decide +kernel, by decide +kernel⟩, List.mem_of_getElem? (i := 914) (by decide +kernel), List.mem_of_getElem? (i := 1227) (by decide +kernel), List.mem_of_getElem? (i := 1228) (by decide +kernel)⟩
theorem lw_p62 : lw_okq (⟨"ChainChoiceModel", "readBits", "()V"⟩, 35) := ⟨⟨by decide +kernel, by decide +kernel⟩, List.mem_of_getElem? (i := 914) (by decide +kernel), List.mem_of_getElem? (i := 1231) (by decide +kernel), List.mem_of_getElem? (i := 1232) (by decide +kernel)⟩
theorem lw_p63 : lw_okq (⟨"ChainChoiceModel", "bit", "()I"⟩, 35) := ⟨⟨by decide +kernel, by decide +kernel⟩, List.mem_of_getElem? (i := 914) (by decide +kernel), List.mem_of_getElem? (i := 1235) (by decide +kernel), List.mem_of_getElem? (i := 1236) (by decide +kernel)⟩
def lw_privs_4 : List (MethodName × Nat) := [(⟨"ChainChoiceModel", "packBits", "(I)V"⟩, 35), (⟨"ChainChoiceModel", "countBytes", "(I)I"⟩, 35), (⟨"ChainChoiceModel", "bits", "(II)V"⟩, 35), (⟨"ChainChoiceModel", "packPrefix", "(I)V"⟩, 35), (⟨"ChainChoiceModel", "findLengths", "(I)V"⟩, 35), (⟨"ChainChoiceModel", "least", "(II)I"⟩, 35), (⟨"ChainChoiceModel", "findCodes", "()V"⟩, 35), (⟨"ChainChoiceModel", "packMatches", "(I)V"⟩, 35), (⟨"ChainChoiceModel", "match", "(II)V"⟩, 35), (⟨"ChainChoiceModel", "isFlat", "()Z"⟩, 35), (⟨"ChainChoiceModel", "next", "()I"⟩, 35), (⟨"ChainChoiceModel", "fail", "(II)V"⟩, 35), (⟨"ChainChoiceModel", "must", "(ZI)V"⟩, 35), (⟨"ChainChoiceModel", "come", "(I)V"⟩, 35), (⟨"ChainChoiceModel", "readBits", "()V"⟩, 35), (⟨"ChainChoiceModel", "bit", "()I"⟩, 35)]
theorem lw_r4 : ∀ q ∈ lw_privs_4, lw_okq q := List.forall_mem_cons.mpr ⟨lw_p48, List.forall_mem_cons.mpr ⟨lw_p49, List.forall_mem_cons.mpr ⟨lw_p50, List.forall_mem_cons.mpr ⟨lw_p51, List.forall_mem_cons.mpr ⟨lw_p52, List.forall_mem_cons.mpr ⟨lw_p53, List.forall_mem_cons.mpr ⟨lw_p54, List.forall_mem_cons.mpr ⟨lw_p55, List.forall_mem_cons.mpr ⟨lw_p56, List.forall_mem_cons.mpr ⟨lw_p57, List.forall_mem_cons.mpr ⟨lw_p58, List.forall_mem_cons.mpr ⟨lw_p59, List.forall_mem_cons.mpr ⟨lw_p60, List.forall_mem_cons.mpr ⟨lw_p61, List.forall_mem_cons.mpr ⟨lw_p62, List.forall_mem_cons.mpr ⟨lw_p63, fun _ h => absurd h List.not_mem_nil⟩⟩⟩⟩⟩⟩⟩⟩⟩⟩⟩⟩⟩⟩⟩⟩
theorem lw_p64 : lw_okq (⟨"ChainChoiceModel", "endBits", "()V"⟩, 35) := ⟨⟨by decide +kernel, by decide +kernel⟩, List.mem_of_getElem? (i := 914) (by decide +kernel), List.mem_of_getElem? (i := 1239) (by decide +kernel), List.mem_of_getElem? (i := 1240) (by decide +kernel)⟩
theorem lw_p65 : lw_okq (⟨"ChainChoiceModel", "readPrefix", "()V"⟩, 35) := ⟨⟨by decide +kernel, by decide +kernel⟩, List.mem_of_getElem? (i := 914) (by decide +kernel), List.mem_of_getElem? (i := 1243) (by decide +kernel), List.mem_of_getElem? (i := 1244) (by decide +kernel)⟩
theorem lw_p66 : lw_okq (⟨"ChainChoiceModel", "readCode", "(II)V"⟩, 35) := ⟨⟨by decide +kernel, by decide +kernel⟩, List.mem_of_getElem? (i := 914) (by decide +kernel), List.mem_of_getElem? (i := 1248) (by decide +kernel), List.mem_of_getElem? (i := 1249) (by decide +kernel)⟩
theorem lw_p67 : lw_okq (⟨"ChainChoiceModel", "readItems", "(Z)V"⟩, 35) := ⟨⟨by decide +kernel, by decide +kernel⟩, List.mem_of_getElem? (i := 914) (by decide +kernel), List.mem_of_getElem? (i := 1252) (by decide +kernel), List.mem_of_getElem? (i := 1253) (by decide +kernel)⟩
def lw_privs_5 : List (MethodName × Nat) := [(⟨"ChainChoiceModel", "endBits", "()V"⟩, 35), (⟨"ChainChoiceModel", "readPrefix", "()V"⟩, 35), (⟨"ChainChoiceModel", "readCode", "(II)V"⟩, 35), (⟨"ChainChoiceModel", "readItems", "(Z)V"⟩, 35)]
theorem lw_r5 : ∀ q ∈ lw_privs_5, lw_okq q := List.forall_mem_cons.mpr ⟨lw_p64, List.forall_mem_cons.mpr ⟨lw_p65, List.forall_mem_cons.mpr ⟨lw_p66, List.forall_mem_cons.mpr ⟨lw_p67, fun _ h => absurd h List.not_mem_nil⟩⟩⟩⟩
def lw_privs : List (MethodName × Nat) := lw_privs_1 ++ (lw_privs_2 ++ (lw_privs_3 ++ (lw_privs_4 ++ (lw_privs_5))))
def lw_tbl : List Cond := k2_sels lw_privs ++ tables_1
theorem lw_privs_ok : ∀ q ∈ lw_privs, lw_okq q := by
  show ∀ q ∈ lw_privs_1 ++ (lw_privs_2 ++ (lw_privs_3 ++ (lw_privs_4 ++ (lw_privs_5)))), lw_okq q
  exact List.forall_mem_append.mpr ⟨lw_r1, List.forall_mem_append.mpr ⟨lw_r2, List.forall_mem_append.mpr ⟨lw_r3, List.forall_mem_append.mpr ⟨lw_r4, lw_r5⟩⟩⟩⟩
end
section
def RX0 : String := "ChainChoice$BitWriter"
def TX0 : u_T := fun k => match k with
  | 0 => ("ChainChoice$BitWriter", "held", "I", false)
  | _ => ("ChainChoice$BitWriter", "used", "I", false)
def tyX0 : Nat → FieldType := fun k => match k with
  | 0 => .int
  | _ => .int
theorem nmX0 : ∀ a, a < 2 → ∀ b, b < 2 → a ≠ b → (TX0 a).2.1 ≠ (TX0 b).2.1 := by decide +kernel
theorem tyX0_ok : ∀ k, k < 2 → parseFieldDescriptor (TX0 k).2.2.1 = some (tyX0 k) := by decide +kernel
abbrev cX0_init : ByteArray := prog_2_method_1_code
def yX0_init : MethodName := ⟨RX0, "<init>", "()V"⟩
def RX1 : String := "ChainChoice$Chains"
def TX1 : u_T := fun k => match k with
  | 0 => ("ChainChoice$Chains", "kinds", "[I", true)
  | 1 => ("ChainChoice$Chains", "values", "[I", true)
  | 2 => ("ChainChoice$Chains", "filterCount", "I", false)
  | 3 => ("ChainChoice$Chains", "packers", "[I", true)
  | _ => ("ChainChoice$Chains", "packerCount", "I", false)
def tyX1 : Nat → FieldType := fun k => match k with
  | 0 => .array .int
  | 1 => .array .int
  | 2 => .int
  | 3 => .array .int
  | _ => .int
theorem nmX1 : ∀ a, a < 5 → ∀ b, b < 5 → a ≠ b → (TX1 a).2.1 ≠ (TX1 b).2.1 := by decide +kernel
theorem tyX1_ok : ∀ k, k < 5 → parseFieldDescriptor (TX1 k).2.2.1 = some (tyX1 k) := by decide +kernel
abbrev cX1_init : ByteArray := prog_3_method_1_code
def yX1_init : MethodName := ⟨RX1, "<init>", "()V"⟩
def RX2 : String := "ChainChoice$Filters"
def TX2 : u_T := fun k => match k with
  | _ => ("ChainChoice$Filters", "order", "[I", true)
def tyX2 : Nat → FieldType := fun k => match k with
  | _ => .array .int
theorem nmX2 : ∀ a, a < 1 → ∀ b, b < 1 → a ≠ b → (TX2 a).2.1 ≠ (TX2 b).2.1 := by decide +kernel
theorem tyX2_ok : ∀ k, k < 1 → parseFieldDescriptor (TX2 k).2.2.1 = some (tyX2 k) := by decide +kernel
abbrev cX2_init : ByteArray := prog_4_method_1_code
def yX2_init : MethodName := ⟨RX2, "<init>", "()V"⟩
def RX3 : String := "ChainChoice$Packers"
def TX3 : u_T := fun k => match k with
  | 0 => ("ChainChoice$Packers", "often", "[I", true)
  | 1 => ("ChainChoice$Packers", "ranks", "[I", true)
  | 2 => ("ChainChoice$Packers", "latest", "[I", true)
  | 3 => ("ChainChoice$Packers", "earlier", "[I", true)
  | 4 => ("ChainChoice$Packers", "bits", "LChainChoice$BitWriter;", true)
  | 5 => ("ChainChoice$Packers", "tree", "LChainChoice$Tree;", true)
  | 6 => ("ChainChoice$Packers", "code", "LChainChoice$PrefixCode;", true)
  | 7 => ("ChainChoice$Packers", "matchLength", "I", false)
  | _ => ("ChainChoice$Packers", "matchBack", "I", false)
def tyX3 : Nat → FieldType := fun k => match k with
  | 0 => .array .int
  | 1 => .array .int
  | 2 => .array .int
  | 3 => .array .int
  | 4 => .object "ChainChoice$BitWriter"
  | 5 => .object "ChainChoice$Tree"
  | 6 => .object "ChainChoice$PrefixCode"
  | 7 => .int
  | _ => .int
theorem nmX3 : ∀ a, a < 9 → ∀ b, b < 9 → a ≠ b → (TX3 a).2.1 ≠ (TX3 b).2.1 := by decide +kernel
theorem tyX3_ok : ∀ k, k < 9 → parseFieldDescriptor (TX3 k).2.2.1 = some (tyX3 k) := by decide +kernel
abbrev cX3_init : ByteArray := prog_5_method_1_code
def yX3_init : MethodName := ⟨RX3, "<init>", "()V"⟩
def RX4 : String := "ChainChoice$PrefixCode"
def TX4 : u_T := fun k => match k with
  | 0 => ("ChainChoice$PrefixCode", "lengths", "[I", true)
  | 1 => ("ChainChoice$PrefixCode", "codes", "[I", true)
  | 2 => ("ChainChoice$PrefixCode", "ranked", "[I", true)
  | 3 => ("ChainChoice$PrefixCode", "ofLength", "[I", true)
  | 4 => ("ChainChoice$PrefixCode", "starts", "[I", true)
  | _ => ("ChainChoice$PrefixCode", "known", "I", false)
def tyX4 : Nat → FieldType := fun k => match k with
  | 0 => .array .int
  | 1 => .array .int
  | 2 => .array .int
  | 3 => .array .int
  | 4 => .array .int
  | _ => .int
theorem nmX4 : ∀ a, a < 6 → ∀ b, b < 6 → a ≠ b → (TX4 a).2.1 ≠ (TX4 b).2.1 := by decide +kernel
theorem tyX4_ok : ∀ k, k < 6 → parseFieldDescriptor (TX4 k).2.2.1 = some (tyX4 k) := by decide +kernel
abbrev cX4_init : ByteArray := prog_6_method_1_code
def yX4_init : MethodName := ⟨RX4, "<init>", "()V"⟩
def RX5 : String := "ChainChoice$Reader"
def TX5 : u_T := fun k => match k with
  | 0 => ("ChainChoice$Reader", "from", "LChainChoice$Row;", false)
  | 1 => ("ChainChoice$Reader", "at", "I", false)
  | 2 => ("ChainChoice$Reader", "held", "I", false)
  | 3 => ("ChainChoice$Reader", "left", "I", false)
  | 4 => ("ChainChoice$Reader", "fault", "I", false)
  | _ => ("ChainChoice$Reader", "faultPlace", "I", false)
def tyX5 : Nat → FieldType := fun k => match k with
  | 0 => .object "ChainChoice$Row"
  | 1 => .int
  | 2 => .int
  | 3 => .int
  | 4 => .int
  | _ => .int
theorem nmX5 : ∀ a, a < 6 → ∀ b, b < 6 → a ≠ b → (TX5 a).2.1 ≠ (TX5 b).2.1 := by decide +kernel
theorem tyX5_ok : ∀ k, k < 6 → parseFieldDescriptor (TX5 k).2.2.1 = some (tyX5 k) := by decide +kernel
abbrev cX5_init : ByteArray := prog_7_method_1_code
def yX5_init : MethodName := ⟨RX5, "<init>", "()V"⟩
def RX6 : String := "ChainChoice$Row"
def TX6 : u_T := fun k => match k with
  | 0 => ("ChainChoice$Row", "cells", "[I", true)
  | _ => ("ChainChoice$Row", "length", "I", false)
def tyX6 : Nat → FieldType := fun k => match k with
  | 0 => .array .int
  | _ => .int
theorem nmX6 : ∀ a, a < 2 → ∀ b, b < 2 → a ≠ b → (TX6 a).2.1 ≠ (TX6 b).2.1 := by decide +kernel
theorem tyX6_ok : ∀ k, k < 2 → parseFieldDescriptor (TX6 k).2.2.1 = some (tyX6 k) := by decide +kernel
abbrev cX6_init : ByteArray := prog_8_method_1_code
def yX6_init : MethodName := ⟨RX6, "<init>", "(I)V"⟩
def RX7 : String := "ChainChoice$Traits"
def TX7 : u_T := fun k => match k with
  | _ => ("ChainChoice$Traits", "often", "[I", true)
def tyX7 : Nat → FieldType := fun k => match k with
  | _ => .array .int
theorem nmX7 : ∀ a, a < 1 → ∀ b, b < 1 → a ≠ b → (TX7 a).2.1 ≠ (TX7 b).2.1 := by decide +kernel
theorem tyX7_ok : ∀ k, k < 1 → parseFieldDescriptor (TX7 k).2.2.1 = some (tyX7 k) := by decide +kernel
abbrev cX7_init : ByteArray := prog_9_method_1_code
def yX7_init : MethodName := ⟨RX7, "<init>", "()V"⟩
def RX8 : String := "ChainChoice$Tree"
def TX8 : u_T := fun k => match k with
  | 0 => ("ChainChoice$Tree", "weights", "[I", true)
  | 1 => ("ChainChoice$Tree", "parents", "[I", true)
  | 2 => ("ChainChoice$Tree", "depths", "[I", true)
  | 3 => ("ChainChoice$Tree", "leaves", "[I", true)
  | 4 => ("ChainChoice$Tree", "leafCount", "I", false)
  | 5 => ("ChainChoice$Tree", "nextLeaf", "I", false)
  | _ => ("ChainChoice$Tree", "nextJoined", "I", false)
def tyX8 : Nat → FieldType := fun k => match k with
  | 0 => .array .int
  | 1 => .array .int
  | 2 => .array .int
  | 3 => .array .int
  | 4 => .int
  | 5 => .int
  | _ => .int
theorem nmX8 : ∀ a, a < 7 → ∀ b, b < 7 → a ≠ b → (TX8 a).2.1 ≠ (TX8 b).2.1 := by decide +kernel
theorem tyX8_ok : ∀ k, k < 7 → parseFieldDescriptor (TX8 k).2.2.1 = some (tyX8 k) := by decide +kernel
abbrev cX8_init : ByteArray := prog_10_method_1_code
def yX8_init : MethodName := ⟨RX8, "<init>", "()V"⟩
def RX9 : String := "ChainChoice$Unpacker"
def TX9 : u_T := fun k => match k with
  | 0 => ("ChainChoice$Unpacker", "in", "LChainChoice$Reader;", true)
  | 1 => ("ChainChoice$Unpacker", "kinds", "[I", true)
  | 2 => ("ChainChoice$Unpacker", "values", "[I", true)
  | 3 => ("ChainChoice$Unpacker", "unlike", "[I", true)
  | 4 => ("ChainChoice$Unpacker", "code", "LChainChoice$PrefixCode;", true)
  | 5 => ("ChainChoice$Unpacker", "filters", "LChainChoice$Filters;", true)
  | 6 => ("ChainChoice$Unpacker", "made", "LChainChoice$Row;", true)
  | 7 => ("ChainChoice$Unpacker", "undone", "LChainChoice$Row;", true)
  | 8 => ("ChainChoice$Unpacker", "filterCount", "I", false)
  | 9 => ("ChainChoice$Unpacker", "packerKind", "I", false)
  | _ => ("ChainChoice$Unpacker", "count", "I", false)
def tyX9 : Nat → FieldType := fun k => match k with
  | 0 => .object "ChainChoice$Reader"
  | 1 => .array .int
  | 2 => .array .int
  | 3 => .array .int
  | 4 => .object "ChainChoice$PrefixCode"
  | 5 => .object "ChainChoice$Filters"
  | 6 => .object "ChainChoice$Row"
  | 7 => .object "ChainChoice$Row"
  | 8 => .int
  | 9 => .int
  | _ => .int
theorem nmX9 : ∀ a, a < 11 → ∀ b, b < 11 → a ≠ b → (TX9 a).2.1 ≠ (TX9 b).2.1 := by decide +kernel
theorem tyX9_ok : ∀ k, k < 11 → parseFieldDescriptor (TX9 k).2.2.1 = some (tyX9 k) := by decide +kernel
abbrev cX9_init : ByteArray := prog_11_method_1_code
def yX9_init : MethodName := ⟨RX9, "<init>", "()V"⟩
def RX10 : String := "ChainChoice"
def TX10 : u_T := fun k => match k with
  | 0 => ("ChainChoice", "text", "LChainChoice$Row;", true)
  | 1 => ("ChainChoice", "out", "LChainChoice$Row;", true)
  | 2 => ("ChainChoice", "trial", "LChainChoice$Row;", true)
  | 3 => ("ChainChoice", "once", "LChainChoice$Row;", true)
  | 4 => ("ChainChoice", "twice", "LChainChoice$Row;", true)
  | 5 => ("ChainChoice", "list", "LChainChoice$Chains;", true)
  | 6 => ("ChainChoice", "filters", "LChainChoice$Filters;", true)
  | 7 => ("ChainChoice", "packers", "LChainChoice$Packers;", true)
  | 8 => ("ChainChoice", "unpacker", "LChainChoice$Unpacker;", true)
  | 9 => ("ChainChoice", "traits", "LChainChoice$Traits;", true)
  | 10 => ("ChainChoice", "choice", "[I", true)
  | 11 => ("ChainChoice", "lessons", "[I", true)
  | 12 => ("ChainChoice", "hasChoice", "Z", false)
  | _ => ("ChainChoice", "faultPlace", "I", false)
def tyX10 : Nat → FieldType := fun k => match k with
  | 0 => .object "ChainChoice$Row"
  | 1 => .object "ChainChoice$Row"
  | 2 => .object "ChainChoice$Row"
  | 3 => .object "ChainChoice$Row"
  | 4 => .object "ChainChoice$Row"
  | 5 => .object "ChainChoice$Chains"
  | 6 => .object "ChainChoice$Filters"
  | 7 => .object "ChainChoice$Packers"
  | 8 => .object "ChainChoice$Unpacker"
  | 9 => .object "ChainChoice$Traits"
  | 10 => .array .int
  | 11 => .array .int
  | 12 => .boolean
  | _ => .int
theorem nmX10 : ∀ a, a < 14 → ∀ b, b < 14 → a ≠ b → (TX10 a).2.1 ≠ (TX10 b).2.1 := by decide +kernel
theorem tyX10_ok : ∀ k, k < 14 → parseFieldDescriptor (TX10 k).2.2.1 = some (tyX10 k) := by decide +kernel
abbrev cX10_init : ByteArray := prog_1_method_1_code
def yX10_init : MethodName := ⟨RX10, "<init>", "()V"⟩
def RX11 : String := "ChainChoiceModel"
def TX11 : u_T := fun k => match k with
  | 0 => ("ChainChoiceModel", "thrown", "I", false)
  | 1 => ("ChainChoiceModel", "size", "I", false)
  | 2 => ("ChainChoiceModel", "text", "[I", true)
  | 3 => ("ChainChoiceModel", "outSize", "I", false)
  | 4 => ("ChainChoiceModel", "out", "[I", true)
  | 5 => ("ChainChoiceModel", "filters", "I", false)
  | 6 => ("ChainChoiceModel", "kinds", "[I", true)
  | 7 => ("ChainChoiceModel", "values", "[I", true)
  | 8 => ("ChainChoiceModel", "packers", "I", false)
  | 9 => ("ChainChoiceModel", "packs", "[I", true)
  | 10 => ("ChainChoiceModel", "one", "I", false)
  | 11 => ("ChainChoiceModel", "two", "I", false)
  | 12 => ("ChainChoiceModel", "last", "I", false)
  | 13 => ("ChainChoiceModel", "row", "[I", true)
  | 14 => ("ChainChoiceModel", "other", "[I", true)
  | 15 => ("ChainChoiceModel", "madeSize", "I", false)
  | 16 => ("ChainChoiceModel", "made", "[I", true)
  | 17 => ("ChainChoiceModel", "taken", "I", false)
  | 18 => ("ChainChoiceModel", "often", "[I", true)
  | 19 => ("ChainChoiceModel", "lengths", "[I", true)
  | 20 => ("ChainChoiceModel", "codes", "[I", true)
  | 21 => ("ChainChoiceModel", "weights", "[I", true)
  | 22 => ("ChainChoiceModel", "above", "[I", true)
  | 23 => ("ChainChoiceModel", "list", "[I", true)
  | 24 => ("ChainChoiceModel", "chosen", "Z", false)
  | 25 => ("ChainChoiceModel", "chose", "[I", true)
  | 26 => ("ChainChoiceModel", "learned", "[I", true)
  | 27 => ("ChainChoiceModel", "fault", "I", false)
  | 28 => ("ChainChoiceModel", "faultAt", "I", false)
  | 29 => ("ChainChoiceModel", "matched", "I", false)
  | 30 => ("ChainChoiceModel", "back", "I", false)
  | 31 => ("ChainChoiceModel", "at", "I", false)
  | 32 => ("ChainChoiceModel", "got", "I", false)
  | 33 => ("ChainChoiceModel", "due", "I", false)
  | _ => ("ChainChoiceModel", "used", "I", false)
def tyX11 : Nat → FieldType := fun k => match k with
  | 0 => .int
  | 1 => .int
  | 2 => .array .int
  | 3 => .int
  | 4 => .array .int
  | 5 => .int
  | 6 => .array .int
  | 7 => .array .int
  | 8 => .int
  | 9 => .array .int
  | 10 => .int
  | 11 => .int
  | 12 => .int
  | 13 => .array .int
  | 14 => .array .int
  | 15 => .int
  | 16 => .array .int
  | 17 => .int
  | 18 => .array .int
  | 19 => .array .int
  | 20 => .array .int
  | 21 => .array .int
  | 22 => .array .int
  | 23 => .array .int
  | 24 => .boolean
  | 25 => .array .int
  | 26 => .array .int
  | 27 => .int
  | 28 => .int
  | 29 => .int
  | 30 => .int
  | 31 => .int
  | 32 => .int
  | 33 => .int
  | _ => .int
theorem nmX11 : ∀ a, a < 35 → ∀ b, b < 35 → a ≠ b → (TX11 a).2.1 ≠ (TX11 b).2.1 := by decide +kernel
theorem tyX11_ok : ∀ k, k < 35 → parseFieldDescriptor (TX11 k).2.2.1 = some (tyX11 k) := by decide +kernel
abbrev cX11_init : ByteArray := prog_13_method_1_code
def yX11_init : MethodName := ⟨RX11, "<init>", "()V"⟩
abbrev cX11_lose : ByteArray := prog_13_method_4_code
def yX11_lose : MethodName := ⟨RX11, "lose", "()V"⟩
def RJ7 : String := "java/util/Arrays"
abbrev cJ7_fill_53178 : ByteArray := prog_21_method_103_code
def yJ7_fill_53178 : MethodName := ⟨RJ7, "fill", "([II)V"⟩
def RL : String := "ChainChoiceLaw"
abbrev cL_law : ByteArray := code
def yL_law : MethodName := ⟨RL, "law", "([I)Z"⟩
abbrev vwCl : List vw_C := [(RX0, TX0, 2), (RX1, TX1, 5), (RX2, TX2, 1), (RX3, TX3, 9), (RX4, TX4, 6), (RX5, TX5, 6), (RX6, TX6, 2), (RX7, TX7, 1), (RX8, TX8, 7), (RX9, TX9, 11), (RX10, TX10, 14), (RX11, TX11, 35)]
end
section
theorem dX0_init_0 : decode cX0_init 0 = .ok (.aload_n 0, 1) := by decide +kernel
theorem dX0_init_1 : decode cX0_init 1 = .ok (.invokespecial 1, 3) := by decide +kernel
theorem dX0_init_4 : decode cX0_init 4 = .ok (.aload_n 0, 1) := by decide +kernel
theorem dX0_init_5 : decode cX0_init 5 = .ok (.iconst 0, 1) := by decide +kernel
theorem dX0_init_6 : decode cX0_init 6 = .ok (.putfield 7, 3) := by decide +kernel
theorem dX0_init_9 : decode cX0_init 9 = .ok (.aload_n 0, 1) := by decide +kernel
theorem dX0_init_10 : decode cX0_init 10 = .ok (.iconst 0, 1) := by decide +kernel
theorem dX0_init_11 : decode cX0_init 11 = .ok (.putfield 13, 3) := by decide +kernel
theorem dX0_init_14 : decode cX0_init 14 = .ok (.return_, 1) := by decide +kernel
theorem dX1_init_0 : decode cX1_init 0 = .ok (.aload_n 0, 1) := by decide +kernel
theorem dX1_init_1 : decode cX1_init 1 = .ok (.invokespecial 3, 3) := by decide +kernel
theorem dX1_init_4 : decode cX1_init 4 = .ok (.aload_n 0, 1) := by decide +kernel
theorem dX1_init_5 : decode cX1_init 5 = .ok (.iconst 4, 1) := by decide +kernel
theorem dX1_init_6 : decode cX1_init 6 = .ok (.newarray .int, 2) := by decide +kernel
theorem dX1_init_8 : decode cX1_init 8 = .ok (.putfield 9, 3) := by decide +kernel
theorem dX1_init_11 : decode cX1_init 11 = .ok (.aload_n 0, 1) := by decide +kernel
theorem dX1_init_12 : decode cX1_init 12 = .ok (.iconst 4, 1) := by decide +kernel
theorem dX1_init_13 : decode cX1_init 13 = .ok (.newarray .int, 2) := by decide +kernel
theorem dX1_init_15 : decode cX1_init 15 = .ok (.putfield 15, 3) := by decide +kernel
theorem dX1_init_18 : decode cX1_init 18 = .ok (.aload_n 0, 1) := by decide +kernel
theorem dX1_init_19 : decode cX1_init 19 = .ok (.iconst 0, 1) := by decide +kernel
theorem dX1_init_20 : decode cX1_init 20 = .ok (.putfield 18, 3) := by decide +kernel
theorem dX1_init_23 : decode cX1_init 23 = .ok (.aload_n 0, 1) := by decide +kernel
theorem dX1_init_24 : decode cX1_init 24 = .ok (.iconst 5, 1) := by decide +kernel
theorem dX1_init_25 : decode cX1_init 25 = .ok (.newarray .int, 2) := by decide +kernel
theorem dX1_init_27 : decode cX1_init 27 = .ok (.putfield 22, 3) := by decide +kernel
theorem dX1_init_30 : decode cX1_init 30 = .ok (.aload_n 0, 1) := by decide +kernel
theorem dX1_init_31 : decode cX1_init 31 = .ok (.iconst 1, 1) := by decide +kernel
theorem dX1_init_32 : decode cX1_init 32 = .ok (.putfield 25, 3) := by decide +kernel
theorem dX1_init_35 : decode cX1_init 35 = .ok (.return_, 1) := by decide +kernel
theorem dX2_init_0 : decode cX2_init 0 = .ok (.aload_n 0, 1) := by decide +kernel
theorem dX2_init_1 : decode cX2_init 1 = .ok (.invokespecial 3, 3) := by decide +kernel
theorem dX2_init_4 : decode cX2_init 4 = .ok (.aload_n 0, 1) := by decide +kernel
theorem dX2_init_5 : decode cX2_init 5 = .ok (.sipush 256, 3) := by decide +kernel
theorem dX2_init_8 : decode cX2_init 8 = .ok (.newarray .int, 2) := by decide +kernel
theorem dX2_init_10 : decode cX2_init 10 = .ok (.putfield 9, 3) := by decide +kernel
theorem dX2_init_13 : decode cX2_init 13 = .ok (.return_, 1) := by decide +kernel
theorem dX3_init_0 : decode cX3_init 0 = .ok (.aload_n 0, 1) := by decide +kernel
theorem dX3_init_1 : decode cX3_init 1 = .ok (.invokespecial 3, 3) := by decide +kernel
theorem dX3_init_4 : decode cX3_init 4 = .ok (.aload_n 0, 1) := by decide +kernel
theorem dX3_init_5 : decode cX3_init 5 = .ok (.sipush 256, 3) := by decide +kernel
theorem dX3_init_8 : decode cX3_init 8 = .ok (.newarray .int, 2) := by decide +kernel
theorem dX3_init_10 : decode cX3_init 10 = .ok (.putfield 9, 3) := by decide +kernel
theorem dX3_init_13 : decode cX3_init 13 = .ok (.aload_n 0, 1) := by decide +kernel
theorem dX3_init_14 : decode cX3_init 14 = .ok (.sipush 256, 3) := by decide +kernel
theorem dX3_init_17 : decode cX3_init 17 = .ok (.newarray .int, 2) := by decide +kernel
theorem dX3_init_19 : decode cX3_init 19 = .ok (.putfield 15, 3) := by decide +kernel
theorem dX3_init_22 : decode cX3_init 22 = .ok (.aload_n 0, 1) := by decide +kernel
theorem dX3_init_23 : decode cX3_init 23 = .ok (.sipush 256, 3) := by decide +kernel
theorem dX3_init_26 : decode cX3_init 26 = .ok (.newarray .int, 2) := by decide +kernel
theorem dX3_init_28 : decode cX3_init 28 = .ok (.putfield 18, 3) := by decide +kernel
theorem dX3_init_31 : decode cX3_init 31 = .ok (.aload_n 0, 1) := by decide +kernel
theorem dX3_init_32 : decode cX3_init 32 = .ok (.sipush 300, 3) := by decide +kernel
theorem dX3_init_35 : decode cX3_init 35 = .ok (.newarray .int, 2) := by decide +kernel
theorem dX3_init_37 : decode cX3_init 37 = .ok (.putfield 21, 3) := by decide +kernel
theorem dX3_init_40 : decode cX3_init 40 = .ok (.aload_n 0, 1) := by decide +kernel
theorem dX3_init_41 : decode cX3_init 41 = .ok (.new 24, 3) := by decide +kernel
theorem dX3_init_44 : decode cX3_init 44 = .ok (.dup, 1) := by decide +kernel
theorem dX3_init_45 : decode cX3_init 45 = .ok (.invokespecial 26, 3) := by decide +kernel
theorem dX3_init_48 : decode cX3_init 48 = .ok (.putfield 27, 3) := by decide +kernel
theorem dX3_init_51 : decode cX3_init 51 = .ok (.aload_n 0, 1) := by decide +kernel
theorem dX3_init_52 : decode cX3_init 52 = .ok (.new 31, 3) := by decide +kernel
theorem dX3_init_55 : decode cX3_init 55 = .ok (.dup, 1) := by decide +kernel
theorem dX3_init_56 : decode cX3_init 56 = .ok (.invokespecial 33, 3) := by decide +kernel
theorem dX3_init_59 : decode cX3_init 59 = .ok (.putfield 34, 3) := by decide +kernel
theorem dX3_init_62 : decode cX3_init 62 = .ok (.aload_n 0, 1) := by decide +kernel
theorem dX3_init_63 : decode cX3_init 63 = .ok (.new 38, 3) := by decide +kernel
theorem dX3_init_66 : decode cX3_init 66 = .ok (.dup, 1) := by decide +kernel
theorem dX3_init_67 : decode cX3_init 67 = .ok (.invokespecial 40, 3) := by decide +kernel
theorem dX3_init_70 : decode cX3_init 70 = .ok (.putfield 41, 3) := by decide +kernel
theorem dX3_init_73 : decode cX3_init 73 = .ok (.aload_n 0, 1) := by decide +kernel
theorem dX3_init_74 : decode cX3_init 74 = .ok (.iconst 0, 1) := by decide +kernel
theorem dX3_init_75 : decode cX3_init 75 = .ok (.putfield 45, 3) := by decide +kernel
theorem dX3_init_78 : decode cX3_init 78 = .ok (.aload_n 0, 1) := by decide +kernel
theorem dX3_init_79 : decode cX3_init 79 = .ok (.iconst 0, 1) := by decide +kernel
theorem dX3_init_80 : decode cX3_init 80 = .ok (.putfield 49, 3) := by decide +kernel
theorem dX3_init_83 : decode cX3_init 83 = .ok (.return_, 1) := by decide +kernel
theorem dX4_init_0 : decode cX4_init 0 = .ok (.aload_n 0, 1) := by decide +kernel
theorem dX4_init_1 : decode cX4_init 1 = .ok (.invokespecial 3, 3) := by decide +kernel
theorem dX4_init_4 : decode cX4_init 4 = .ok (.aload_n 0, 1) := by decide +kernel
theorem dX4_init_5 : decode cX4_init 5 = .ok (.sipush 256, 3) := by decide +kernel
theorem dX4_init_8 : decode cX4_init 8 = .ok (.newarray .int, 2) := by decide +kernel
theorem dX4_init_10 : decode cX4_init 10 = .ok (.putfield 9, 3) := by decide +kernel
theorem dX4_init_13 : decode cX4_init 13 = .ok (.aload_n 0, 1) := by decide +kernel
theorem dX4_init_14 : decode cX4_init 14 = .ok (.sipush 256, 3) := by decide +kernel
theorem dX4_init_17 : decode cX4_init 17 = .ok (.newarray .int, 2) := by decide +kernel
theorem dX4_init_19 : decode cX4_init 19 = .ok (.putfield 15, 3) := by decide +kernel
theorem dX4_init_22 : decode cX4_init 22 = .ok (.aload_n 0, 1) := by decide +kernel
theorem dX4_init_23 : decode cX4_init 23 = .ok (.sipush 256, 3) := by decide +kernel
theorem dX4_init_26 : decode cX4_init 26 = .ok (.newarray .int, 2) := by decide +kernel
theorem dX4_init_28 : decode cX4_init 28 = .ok (.putfield 18, 3) := by decide +kernel
theorem dX4_init_31 : decode cX4_init 31 = .ok (.aload_n 0, 1) := by decide +kernel
theorem dX4_init_32 : decode cX4_init 32 = .ok (.bipush 16, 2) := by decide +kernel
theorem dX4_init_34 : decode cX4_init 34 = .ok (.newarray .int, 2) := by decide +kernel
theorem dX4_init_36 : decode cX4_init 36 = .ok (.putfield 21, 3) := by decide +kernel
theorem dX4_init_39 : decode cX4_init 39 = .ok (.aload_n 0, 1) := by decide +kernel
theorem dX4_init_40 : decode cX4_init 40 = .ok (.bipush 17, 2) := by decide +kernel
theorem dX4_init_42 : decode cX4_init 42 = .ok (.newarray .int, 2) := by decide +kernel
theorem dX4_init_44 : decode cX4_init 44 = .ok (.putfield 24, 3) := by decide +kernel
theorem dX4_init_47 : decode cX4_init 47 = .ok (.aload_n 0, 1) := by decide +kernel
theorem dX4_init_48 : decode cX4_init 48 = .ok (.iconst 0, 1) := by decide +kernel
theorem dX4_init_49 : decode cX4_init 49 = .ok (.putfield 27, 3) := by decide +kernel
theorem dX4_init_52 : decode cX4_init 52 = .ok (.return_, 1) := by decide +kernel
theorem dX5_init_0 : decode cX5_init 0 = .ok (.aload_n 0, 1) := by decide +kernel
theorem dX5_init_1 : decode cX5_init 1 = .ok (.invokespecial 3, 3) := by decide +kernel
theorem dX5_init_4 : decode cX5_init 4 = .ok (.aload_n 0, 1) := by decide +kernel
theorem dX5_init_5 : decode cX5_init 5 = .ok (.new 9, 3) := by decide +kernel
theorem dX5_init_8 : decode cX5_init 8 = .ok (.dup, 1) := by decide +kernel
theorem dX5_init_9 : decode cX5_init 9 = .ok (.iconst 0, 1) := by decide +kernel
theorem dX5_init_10 : decode cX5_init 10 = .ok (.invokespecial 11, 3) := by decide +kernel
theorem dX5_init_13 : decode cX5_init 13 = .ok (.putfield 14, 3) := by decide +kernel
theorem dX5_init_16 : decode cX5_init 16 = .ok (.aload_n 0, 1) := by decide +kernel
theorem dX5_init_17 : decode cX5_init 17 = .ok (.iconst 0, 1) := by decide +kernel
theorem dX5_init_18 : decode cX5_init 18 = .ok (.putfield 20, 3) := by decide +kernel
theorem dX5_init_21 : decode cX5_init 21 = .ok (.aload_n 0, 1) := by decide +kernel
theorem dX5_init_22 : decode cX5_init 22 = .ok (.iconst 0, 1) := by decide +kernel
theorem dX5_init_23 : decode cX5_init 23 = .ok (.putfield 24, 3) := by decide +kernel
theorem dX5_init_26 : decode cX5_init 26 = .ok (.aload_n 0, 1) := by decide +kernel
theorem dX5_init_27 : decode cX5_init 27 = .ok (.iconst 0, 1) := by decide +kernel
theorem dX5_init_28 : decode cX5_init 28 = .ok (.putfield 27, 3) := by decide +kernel
theorem dX5_init_31 : decode cX5_init 31 = .ok (.aload_n 0, 1) := by decide +kernel
theorem dX5_init_32 : decode cX5_init 32 = .ok (.iconst 0, 1) := by decide +kernel
theorem dX5_init_33 : decode cX5_init 33 = .ok (.putfield 30, 3) := by decide +kernel
theorem dX5_init_36 : decode cX5_init 36 = .ok (.aload_n 0, 1) := by decide +kernel
theorem dX5_init_37 : decode cX5_init 37 = .ok (.iconst 0, 1) := by decide +kernel
theorem dX5_init_38 : decode cX5_init 38 = .ok (.putfield 33, 3) := by decide +kernel
theorem dX5_init_41 : decode cX5_init 41 = .ok (.return_, 1) := by decide +kernel
theorem dX6_init_0 : decode cX6_init 0 = .ok (.aload_n 0, 1) := by decide +kernel
theorem dX6_init_1 : decode cX6_init 1 = .ok (.invokespecial 1, 3) := by decide +kernel
theorem dX6_init_4 : decode cX6_init 4 = .ok (.aload_n 0, 1) := by decide +kernel
theorem dX6_init_5 : decode cX6_init 5 = .ok (.iconst 0, 1) := by decide +kernel
theorem dX6_init_6 : decode cX6_init 6 = .ok (.putfield 7, 3) := by decide +kernel
theorem dX6_init_9 : decode cX6_init 9 = .ok (.aload_n 0, 1) := by decide +kernel
theorem dX6_init_10 : decode cX6_init 10 = .ok (.iload_n 1, 1) := by decide +kernel
theorem dX6_init_11 : decode cX6_init 11 = .ok (.ifCond .le 7, 3) := by decide +kernel
theorem dX6_init_14 : decode cX6_init 14 = .ok (.iload_n 1, 1) := by decide +kernel
theorem dX6_init_15 : decode cX6_init 15 = .ok (.goto 4, 3) := by decide +kernel
theorem dX6_init_18 : decode cX6_init 18 = .ok (.iconst 0, 1) := by decide +kernel
theorem dX6_init_19 : decode cX6_init 19 = .ok (.newarray .int, 2) := by decide +kernel
theorem dX6_init_21 : decode cX6_init 21 = .ok (.putfield 13, 3) := by decide +kernel
theorem dX6_init_24 : decode cX6_init 24 = .ok (.return_, 1) := by decide +kernel
theorem dX7_init_0 : decode cX7_init 0 = .ok (.aload_n 0, 1) := by decide +kernel
theorem dX7_init_1 : decode cX7_init 1 = .ok (.invokespecial 3, 3) := by decide +kernel
theorem dX7_init_4 : decode cX7_init 4 = .ok (.aload_n 0, 1) := by decide +kernel
theorem dX7_init_5 : decode cX7_init 5 = .ok (.sipush 256, 3) := by decide +kernel
theorem dX7_init_8 : decode cX7_init 8 = .ok (.newarray .int, 2) := by decide +kernel
theorem dX7_init_10 : decode cX7_init 10 = .ok (.putfield 9, 3) := by decide +kernel
theorem dX7_init_13 : decode cX7_init 13 = .ok (.return_, 1) := by decide +kernel
theorem dX8_init_0 : decode cX8_init 0 = .ok (.aload_n 0, 1) := by decide +kernel
theorem dX8_init_1 : decode cX8_init 1 = .ok (.invokespecial 3, 3) := by decide +kernel
theorem dX8_init_4 : decode cX8_init 4 = .ok (.aload_n 0, 1) := by decide +kernel
theorem dX8_init_5 : decode cX8_init 5 = .ok (.sipush 512, 3) := by decide +kernel
theorem dX8_init_8 : decode cX8_init 8 = .ok (.newarray .int, 2) := by decide +kernel
theorem dX8_init_10 : decode cX8_init 10 = .ok (.putfield 9, 3) := by decide +kernel
theorem dX8_init_13 : decode cX8_init 13 = .ok (.aload_n 0, 1) := by decide +kernel
theorem dX8_init_14 : decode cX8_init 14 = .ok (.sipush 512, 3) := by decide +kernel
theorem dX8_init_17 : decode cX8_init 17 = .ok (.newarray .int, 2) := by decide +kernel
theorem dX8_init_19 : decode cX8_init 19 = .ok (.putfield 15, 3) := by decide +kernel
theorem dX8_init_22 : decode cX8_init 22 = .ok (.aload_n 0, 1) := by decide +kernel
theorem dX8_init_23 : decode cX8_init 23 = .ok (.sipush 512, 3) := by decide +kernel
theorem dX8_init_26 : decode cX8_init 26 = .ok (.newarray .int, 2) := by decide +kernel
theorem dX8_init_28 : decode cX8_init 28 = .ok (.putfield 18, 3) := by decide +kernel
theorem dX8_init_31 : decode cX8_init 31 = .ok (.aload_n 0, 1) := by decide +kernel
theorem dX8_init_32 : decode cX8_init 32 = .ok (.sipush 256, 3) := by decide +kernel
theorem dX8_init_35 : decode cX8_init 35 = .ok (.newarray .int, 2) := by decide +kernel
theorem dX8_init_37 : decode cX8_init 37 = .ok (.putfield 21, 3) := by decide +kernel
theorem dX8_init_40 : decode cX8_init 40 = .ok (.aload_n 0, 1) := by decide +kernel
theorem dX8_init_41 : decode cX8_init 41 = .ok (.iconst 0, 1) := by decide +kernel
theorem dX8_init_42 : decode cX8_init 42 = .ok (.putfield 24, 3) := by decide +kernel
theorem dX8_init_45 : decode cX8_init 45 = .ok (.aload_n 0, 1) := by decide +kernel
theorem dX8_init_46 : decode cX8_init 46 = .ok (.iconst 0, 1) := by decide +kernel
theorem dX8_init_47 : decode cX8_init 47 = .ok (.putfield 28, 3) := by decide +kernel
theorem dX8_init_50 : decode cX8_init 50 = .ok (.aload_n 0, 1) := by decide +kernel
theorem dX8_init_51 : decode cX8_init 51 = .ok (.iconst 0, 1) := by decide +kernel
theorem dX8_init_52 : decode cX8_init 52 = .ok (.putfield 31, 3) := by decide +kernel
theorem dX8_init_55 : decode cX8_init 55 = .ok (.return_, 1) := by decide +kernel
theorem dX9_init_0 : decode cX9_init 0 = .ok (.aload_n 0, 1) := by decide +kernel
theorem dX9_init_1 : decode cX9_init 1 = .ok (.invokespecial 3, 3) := by decide +kernel
theorem dX9_init_4 : decode cX9_init 4 = .ok (.aload_n 0, 1) := by decide +kernel
theorem dX9_init_5 : decode cX9_init 5 = .ok (.new 9, 3) := by decide +kernel
theorem dX9_init_8 : decode cX9_init 8 = .ok (.dup, 1) := by decide +kernel
theorem dX9_init_9 : decode cX9_init 9 = .ok (.invokespecial 11, 3) := by decide +kernel
theorem dX9_init_12 : decode cX9_init 12 = .ok (.putfield 12, 3) := by decide +kernel
theorem dX9_init_15 : decode cX9_init 15 = .ok (.aload_n 0, 1) := by decide +kernel
theorem dX9_init_16 : decode cX9_init 16 = .ok (.iconst 2, 1) := by decide +kernel
theorem dX9_init_17 : decode cX9_init 17 = .ok (.newarray .int, 2) := by decide +kernel
theorem dX9_init_19 : decode cX9_init 19 = .ok (.putfield 18, 3) := by decide +kernel
theorem dX9_init_22 : decode cX9_init 22 = .ok (.aload_n 0, 1) := by decide +kernel
theorem dX9_init_23 : decode cX9_init 23 = .ok (.iconst 2, 1) := by decide +kernel
theorem dX9_init_24 : decode cX9_init 24 = .ok (.newarray .int, 2) := by decide +kernel
theorem dX9_init_26 : decode cX9_init 26 = .ok (.putfield 22, 3) := by decide +kernel
theorem dX9_init_29 : decode cX9_init 29 = .ok (.aload_n 0, 1) := by decide +kernel
theorem dX9_init_30 : decode cX9_init 30 = .ok (.sipush 256, 3) := by decide +kernel
theorem dX9_init_33 : decode cX9_init 33 = .ok (.newarray .int, 2) := by decide +kernel
theorem dX9_init_35 : decode cX9_init 35 = .ok (.putfield 25, 3) := by decide +kernel
theorem dX9_init_38 : decode cX9_init 38 = .ok (.aload_n 0, 1) := by decide +kernel
theorem dX9_init_39 : decode cX9_init 39 = .ok (.new 28, 3) := by decide +kernel
theorem dX9_init_42 : decode cX9_init 42 = .ok (.dup, 1) := by decide +kernel
theorem dX9_init_43 : decode cX9_init 43 = .ok (.invokespecial 30, 3) := by decide +kernel
theorem dX9_init_46 : decode cX9_init 46 = .ok (.putfield 31, 3) := by decide +kernel
theorem dX9_init_49 : decode cX9_init 49 = .ok (.aload_n 0, 1) := by decide +kernel
theorem dX9_init_50 : decode cX9_init 50 = .ok (.new 35, 3) := by decide +kernel
theorem dX9_init_53 : decode cX9_init 53 = .ok (.dup, 1) := by decide +kernel
theorem dX9_init_54 : decode cX9_init 54 = .ok (.invokespecial 37, 3) := by decide +kernel
theorem dX9_init_57 : decode cX9_init 57 = .ok (.putfield 38, 3) := by decide +kernel
theorem dX9_init_60 : decode cX9_init 60 = .ok (.aload_n 0, 1) := by decide +kernel
theorem dX9_init_61 : decode cX9_init 61 = .ok (.new 42, 3) := by decide +kernel
theorem dX9_init_64 : decode cX9_init 64 = .ok (.dup, 1) := by decide +kernel
theorem dX9_init_65 : decode cX9_init 65 = .ok (.sipush 300, 3) := by decide +kernel
theorem dX9_init_68 : decode cX9_init 68 = .ok (.invokespecial 44, 3) := by decide +kernel
theorem dX9_init_71 : decode cX9_init 71 = .ok (.putfield 47, 3) := by decide +kernel
theorem dX9_init_74 : decode cX9_init 74 = .ok (.aload_n 0, 1) := by decide +kernel
theorem dX9_init_75 : decode cX9_init 75 = .ok (.new 42, 3) := by decide +kernel
theorem dX9_init_78 : decode cX9_init 78 = .ok (.dup, 1) := by decide +kernel
theorem dX9_init_79 : decode cX9_init 79 = .ok (.sipush 300, 3) := by decide +kernel
theorem dX9_init_82 : decode cX9_init 82 = .ok (.invokespecial 44, 3) := by decide +kernel
theorem dX9_init_85 : decode cX9_init 85 = .ok (.putfield 51, 3) := by decide +kernel
theorem dX9_init_88 : decode cX9_init 88 = .ok (.aload_n 0, 1) := by decide +kernel
theorem dX9_init_89 : decode cX9_init 89 = .ok (.iconst 0, 1) := by decide +kernel
theorem dX9_init_90 : decode cX9_init 90 = .ok (.putfield 54, 3) := by decide +kernel
theorem dX9_init_93 : decode cX9_init 93 = .ok (.aload_n 0, 1) := by decide +kernel
theorem dX9_init_94 : decode cX9_init 94 = .ok (.iconst 0, 1) := by decide +kernel
theorem dX9_init_95 : decode cX9_init 95 = .ok (.putfield 58, 3) := by decide +kernel
theorem dX9_init_98 : decode cX9_init 98 = .ok (.aload_n 0, 1) := by decide +kernel
theorem dX9_init_99 : decode cX9_init 99 = .ok (.iconst 0, 1) := by decide +kernel
theorem dX9_init_100 : decode cX9_init 100 = .ok (.putfield 61, 3) := by decide +kernel
theorem dX9_init_103 : decode cX9_init 103 = .ok (.return_, 1) := by decide +kernel
theorem dX10_init_0 : decode cX10_init 0 = .ok (.aload_n 0, 1) := by decide +kernel
theorem dX10_init_1 : decode cX10_init 1 = .ok (.invokespecial 1, 3) := by decide +kernel
theorem dX10_init_4 : decode cX10_init 4 = .ok (.aload_n 0, 1) := by decide +kernel
theorem dX10_init_5 : decode cX10_init 5 = .ok (.new 7, 3) := by decide +kernel
theorem dX10_init_8 : decode cX10_init 8 = .ok (.dup, 1) := by decide +kernel
theorem dX10_init_9 : decode cX10_init 9 = .ok (.sipush 300, 3) := by decide +kernel
theorem dX10_init_12 : decode cX10_init 12 = .ok (.invokespecial 11, 3) := by decide +kernel
theorem dX10_init_15 : decode cX10_init 15 = .ok (.putfield 14, 3) := by decide +kernel
theorem dX10_init_18 : decode cX10_init 18 = .ok (.aload_n 0, 1) := by decide +kernel
theorem dX10_init_19 : decode cX10_init 19 = .ok (.new 7, 3) := by decide +kernel
theorem dX10_init_22 : decode cX10_init 22 = .ok (.dup, 1) := by decide +kernel
theorem dX10_init_23 : decode cX10_init 23 = .ok (.sipush 1024, 3) := by decide +kernel
theorem dX10_init_26 : decode cX10_init 26 = .ok (.invokespecial 11, 3) := by decide +kernel
theorem dX10_init_29 : decode cX10_init 29 = .ok (.putfield 18, 3) := by decide +kernel
theorem dX10_init_32 : decode cX10_init 32 = .ok (.aload_n 0, 1) := by decide +kernel
theorem dX10_init_33 : decode cX10_init 33 = .ok (.new 7, 3) := by decide +kernel
theorem dX10_init_36 : decode cX10_init 36 = .ok (.dup, 1) := by decide +kernel
theorem dX10_init_37 : decode cX10_init 37 = .ok (.sipush 1024, 3) := by decide +kernel
theorem dX10_init_40 : decode cX10_init 40 = .ok (.invokespecial 11, 3) := by decide +kernel
theorem dX10_init_43 : decode cX10_init 43 = .ok (.putfield 21, 3) := by decide +kernel
theorem dX10_init_46 : decode cX10_init 46 = .ok (.aload_n 0, 1) := by decide +kernel
theorem dX10_init_47 : decode cX10_init 47 = .ok (.new 7, 3) := by decide +kernel
theorem dX10_init_50 : decode cX10_init 50 = .ok (.dup, 1) := by decide +kernel
theorem dX10_init_51 : decode cX10_init 51 = .ok (.sipush 300, 3) := by decide +kernel
theorem dX10_init_54 : decode cX10_init 54 = .ok (.invokespecial 11, 3) := by decide +kernel
theorem dX10_init_57 : decode cX10_init 57 = .ok (.putfield 24, 3) := by decide +kernel
theorem dX10_init_60 : decode cX10_init 60 = .ok (.aload_n 0, 1) := by decide +kernel
theorem dX10_init_61 : decode cX10_init 61 = .ok (.new 7, 3) := by decide +kernel
theorem dX10_init_64 : decode cX10_init 64 = .ok (.dup, 1) := by decide +kernel
theorem dX10_init_65 : decode cX10_init 65 = .ok (.sipush 300, 3) := by decide +kernel
theorem dX10_init_68 : decode cX10_init 68 = .ok (.invokespecial 11, 3) := by decide +kernel
theorem dX10_init_71 : decode cX10_init 71 = .ok (.putfield 27, 3) := by decide +kernel
theorem dX10_init_74 : decode cX10_init 74 = .ok (.aload_n 0, 1) := by decide +kernel
theorem dX10_init_75 : decode cX10_init 75 = .ok (.new 30, 3) := by decide +kernel
theorem dX10_init_78 : decode cX10_init 78 = .ok (.dup, 1) := by decide +kernel
theorem dX10_init_79 : decode cX10_init 79 = .ok (.invokespecial 32, 3) := by decide +kernel
theorem dX10_init_82 : decode cX10_init 82 = .ok (.putfield 33, 3) := by decide +kernel
theorem dX10_init_85 : decode cX10_init 85 = .ok (.aload_n 0, 1) := by decide +kernel
theorem dX10_init_86 : decode cX10_init 86 = .ok (.new 37, 3) := by decide +kernel
theorem dX10_init_89 : decode cX10_init 89 = .ok (.dup, 1) := by decide +kernel
theorem dX10_init_90 : decode cX10_init 90 = .ok (.invokespecial 39, 3) := by decide +kernel
theorem dX10_init_93 : decode cX10_init 93 = .ok (.putfield 40, 3) := by decide +kernel
theorem dX10_init_96 : decode cX10_init 96 = .ok (.aload_n 0, 1) := by decide +kernel
theorem dX10_init_97 : decode cX10_init 97 = .ok (.new 44, 3) := by decide +kernel
theorem dX10_init_100 : decode cX10_init 100 = .ok (.dup, 1) := by decide +kernel
theorem dX10_init_101 : decode cX10_init 101 = .ok (.invokespecial 46, 3) := by decide +kernel
theorem dX10_init_104 : decode cX10_init 104 = .ok (.putfield 47, 3) := by decide +kernel
theorem dX10_init_107 : decode cX10_init 107 = .ok (.aload_n 0, 1) := by decide +kernel
theorem dX10_init_108 : decode cX10_init 108 = .ok (.new 51, 3) := by decide +kernel
theorem dX10_init_111 : decode cX10_init 111 = .ok (.dup, 1) := by decide +kernel
theorem dX10_init_112 : decode cX10_init 112 = .ok (.invokespecial 53, 3) := by decide +kernel
theorem dX10_init_115 : decode cX10_init 115 = .ok (.putfield 54, 3) := by decide +kernel
theorem dX10_init_118 : decode cX10_init 118 = .ok (.aload_n 0, 1) := by decide +kernel
theorem dX10_init_119 : decode cX10_init 119 = .ok (.new 58, 3) := by decide +kernel
theorem dX10_init_122 : decode cX10_init 122 = .ok (.dup, 1) := by decide +kernel
theorem dX10_init_123 : decode cX10_init 123 = .ok (.invokespecial 60, 3) := by decide +kernel
theorem dX10_init_126 : decode cX10_init 126 = .ok (.putfield 61, 3) := by decide +kernel
theorem dX10_init_129 : decode cX10_init 129 = .ok (.aload_n 0, 1) := by decide +kernel
theorem dX10_init_130 : decode cX10_init 130 = .ok (.bipush 6, 2) := by decide +kernel
theorem dX10_init_132 : decode cX10_init 132 = .ok (.newarray .int, 2) := by decide +kernel
theorem dX10_init_134 : decode cX10_init 134 = .ok (.putfield 65, 3) := by decide +kernel
theorem dX10_init_137 : decode cX10_init 137 = .ok (.aload_n 0, 1) := by decide +kernel
theorem dX10_init_138 : decode cX10_init 138 = .ok (.bipush 64, 2) := by decide +kernel
theorem dX10_init_140 : decode cX10_init 140 = .ok (.newarray .int, 2) := by decide +kernel
theorem dX10_init_142 : decode cX10_init 142 = .ok (.putfield 69, 3) := by decide +kernel
theorem dX10_init_145 : decode cX10_init 145 = .ok (.aload_n 0, 1) := by decide +kernel
theorem dX10_init_146 : decode cX10_init 146 = .ok (.iconst 0, 1) := by decide +kernel
theorem dX10_init_147 : decode cX10_init 147 = .ok (.putfield 72, 3) := by decide +kernel
theorem dX10_init_150 : decode cX10_init 150 = .ok (.aload_n 0, 1) := by decide +kernel
theorem dX10_init_151 : decode cX10_init 151 = .ok (.bipush (-3), 2) := by decide +kernel
theorem dX10_init_153 : decode cX10_init 153 = .ok (.putfield 76, 3) := by decide +kernel
theorem dX10_init_156 : decode cX10_init 156 = .ok (.aload_n 0, 1) := by decide +kernel
theorem dX10_init_157 : decode cX10_init 157 = .ok (.getfield 69, 3) := by decide +kernel
theorem dX10_init_160 : decode cX10_init 160 = .ok (.bipush (-3), 2) := by decide +kernel
theorem dX10_init_162 : decode cX10_init 162 = .ok (.invokestatic 80, 3) := by decide +kernel
theorem dX10_init_165 : decode cX10_init 165 = .ok (.return_, 1) := by decide +kernel
theorem dX11_init_0 : decode cX11_init 0 = .ok (.aload_n 0, 1) := by decide +kernel
theorem dX11_init_1 : decode cX11_init 1 = .ok (.invokespecial 1, 3) := by decide +kernel
theorem dX11_init_4 : decode cX11_init 4 = .ok (.aload_n 0, 1) := by decide +kernel
theorem dX11_init_5 : decode cX11_init 5 = .ok (.sipush 300, 3) := by decide +kernel
theorem dX11_init_8 : decode cX11_init 8 = .ok (.newarray .int, 2) := by decide +kernel
theorem dX11_init_10 : decode cX11_init 10 = .ok (.putfield 7, 3) := by decide +kernel
theorem dX11_init_13 : decode cX11_init 13 = .ok (.aload_n 0, 1) := by decide +kernel
theorem dX11_init_14 : decode cX11_init 14 = .ok (.sipush 1400, 3) := by decide +kernel
theorem dX11_init_17 : decode cX11_init 17 = .ok (.newarray .int, 2) := by decide +kernel
theorem dX11_init_19 : decode cX11_init 19 = .ok (.putfield 13, 3) := by decide +kernel
theorem dX11_init_22 : decode cX11_init 22 = .ok (.aload_n 0, 1) := by decide +kernel
theorem dX11_init_23 : decode cX11_init 23 = .ok (.iconst 4, 1) := by decide +kernel
theorem dX11_init_24 : decode cX11_init 24 = .ok (.newarray .int, 2) := by decide +kernel
theorem dX11_init_26 : decode cX11_init 26 = .ok (.putfield 16, 3) := by decide +kernel
theorem dX11_init_29 : decode cX11_init 29 = .ok (.aload_n 0, 1) := by decide +kernel
theorem dX11_init_30 : decode cX11_init 30 = .ok (.iconst 4, 1) := by decide +kernel
theorem dX11_init_31 : decode cX11_init 31 = .ok (.newarray .int, 2) := by decide +kernel
theorem dX11_init_33 : decode cX11_init 33 = .ok (.putfield 19, 3) := by decide +kernel
theorem dX11_init_36 : decode cX11_init 36 = .ok (.aload_n 0, 1) := by decide +kernel
theorem dX11_init_37 : decode cX11_init 37 = .ok (.iconst 4, 1) := by decide +kernel
theorem dX11_init_38 : decode cX11_init 38 = .ok (.newarray .int, 2) := by decide +kernel
theorem dX11_init_40 : decode cX11_init 40 = .ok (.putfield 22, 3) := by decide +kernel
theorem dX11_init_43 : decode cX11_init 43 = .ok (.aload_n 0, 1) := by decide +kernel
theorem dX11_init_44 : decode cX11_init 44 = .ok (.sipush 300, 3) := by decide +kernel
theorem dX11_init_47 : decode cX11_init 47 = .ok (.newarray .int, 2) := by decide +kernel
theorem dX11_init_49 : decode cX11_init 49 = .ok (.putfield 25, 3) := by decide +kernel
theorem dX11_init_52 : decode cX11_init 52 = .ok (.aload_n 0, 1) := by decide +kernel
theorem dX11_init_53 : decode cX11_init 53 = .ok (.sipush 300, 3) := by decide +kernel
theorem dX11_init_56 : decode cX11_init 56 = .ok (.newarray .int, 2) := by decide +kernel
theorem dX11_init_58 : decode cX11_init 58 = .ok (.putfield 28, 3) := by decide +kernel
theorem dX11_init_61 : decode cX11_init 61 = .ok (.aload_n 0, 1) := by decide +kernel
theorem dX11_init_62 : decode cX11_init 62 = .ok (.sipush 1400, 3) := by decide +kernel
theorem dX11_init_65 : decode cX11_init 65 = .ok (.newarray .int, 2) := by decide +kernel
theorem dX11_init_67 : decode cX11_init 67 = .ok (.putfield 31, 3) := by decide +kernel
theorem dX11_init_70 : decode cX11_init 70 = .ok (.aload_n 0, 1) := by decide +kernel
theorem dX11_init_71 : decode cX11_init 71 = .ok (.sipush 256, 3) := by decide +kernel
theorem dX11_init_74 : decode cX11_init 74 = .ok (.newarray .int, 2) := by decide +kernel
theorem dX11_init_76 : decode cX11_init 76 = .ok (.putfield 34, 3) := by decide +kernel
theorem dX11_init_79 : decode cX11_init 79 = .ok (.aload_n 0, 1) := by decide +kernel
theorem dX11_init_80 : decode cX11_init 80 = .ok (.sipush 256, 3) := by decide +kernel
theorem dX11_init_83 : decode cX11_init 83 = .ok (.newarray .int, 2) := by decide +kernel
theorem dX11_init_85 : decode cX11_init 85 = .ok (.putfield 37, 3) := by decide +kernel
theorem dX11_init_88 : decode cX11_init 88 = .ok (.aload_n 0, 1) := by decide +kernel
theorem dX11_init_89 : decode cX11_init 89 = .ok (.sipush 256, 3) := by decide +kernel
theorem dX11_init_92 : decode cX11_init 92 = .ok (.newarray .int, 2) := by decide +kernel
theorem dX11_init_94 : decode cX11_init 94 = .ok (.putfield 40, 3) := by decide +kernel
theorem dX11_init_97 : decode cX11_init 97 = .ok (.aload_n 0, 1) := by decide +kernel
theorem dX11_init_98 : decode cX11_init 98 = .ok (.sipush 512, 3) := by decide +kernel
theorem dX11_init_101 : decode cX11_init 101 = .ok (.newarray .int, 2) := by decide +kernel
theorem dX11_init_103 : decode cX11_init 103 = .ok (.putfield 43, 3) := by decide +kernel
theorem dX11_init_106 : decode cX11_init 106 = .ok (.aload_n 0, 1) := by decide +kernel
theorem dX11_init_107 : decode cX11_init 107 = .ok (.sipush 512, 3) := by decide +kernel
theorem dX11_init_110 : decode cX11_init 110 = .ok (.newarray .int, 2) := by decide +kernel
theorem dX11_init_112 : decode cX11_init 112 = .ok (.putfield 46, 3) := by decide +kernel
theorem dX11_init_115 : decode cX11_init 115 = .ok (.aload_n 0, 1) := by decide +kernel
theorem dX11_init_116 : decode cX11_init 116 = .ok (.sipush 256, 3) := by decide +kernel
theorem dX11_init_119 : decode cX11_init 119 = .ok (.newarray .int, 2) := by decide +kernel
theorem dX11_init_121 : decode cX11_init 121 = .ok (.putfield 49, 3) := by decide +kernel
theorem dX11_init_124 : decode cX11_init 124 = .ok (.aload_n 0, 1) := by decide +kernel
theorem dX11_init_125 : decode cX11_init 125 = .ok (.bipush 6, 2) := by decide +kernel
theorem dX11_init_127 : decode cX11_init 127 = .ok (.newarray .int, 2) := by decide +kernel
theorem dX11_init_129 : decode cX11_init 129 = .ok (.putfield 52, 3) := by decide +kernel
theorem dX11_init_132 : decode cX11_init 132 = .ok (.aload_n 0, 1) := by decide +kernel
theorem dX11_init_133 : decode cX11_init 133 = .ok (.bipush 64, 2) := by decide +kernel
theorem dX11_init_135 : decode cX11_init 135 = .ok (.newarray .int, 2) := by decide +kernel
theorem dX11_init_137 : decode cX11_init 137 = .ok (.putfield 55, 3) := by decide +kernel
theorem dX11_init_140 : decode cX11_init 140 = .ok (.aload_n 0, 1) := by decide +kernel
theorem dX11_init_141 : decode cX11_init 141 = .ok (.bipush (-3), 2) := by decide +kernel
theorem dX11_init_143 : decode cX11_init 143 = .ok (.putfield 58, 3) := by decide +kernel
theorem dX11_init_146 : decode cX11_init 146 = .ok (.aload_n 0, 1) := by decide +kernel
theorem dX11_init_147 : decode cX11_init 147 = .ok (.invokevirtual 62, 3) := by decide +kernel
theorem dX11_init_150 : decode cX11_init 150 = .ok (.return_, 1) := by decide +kernel
theorem dX11_lose_0 : decode cX11_lose 0 = .ok (.aload_n 0, 1) := by decide +kernel
theorem dX11_lose_1 : decode cX11_lose 1 = .ok (.iconst 0, 1) := by decide +kernel
theorem dX11_lose_2 : decode cX11_lose 2 = .ok (.putfield 68, 3) := by decide +kernel
theorem dX11_lose_5 : decode cX11_lose 5 = .ok (.iconst 0, 1) := by decide +kernel
theorem dX11_lose_6 : decode cX11_lose 6 = .ok (.istore_n 1, 1) := by decide +kernel
theorem dX11_lose_7 : decode cX11_lose 7 = .ok (.iload_n 1, 1) := by decide +kernel
theorem dX11_lose_8 : decode cX11_lose 8 = .ok (.bipush 64, 2) := by decide +kernel
theorem dX11_lose_10 : decode cX11_lose 10 = .ok (.if_icmp .ge 17, 3) := by decide +kernel
theorem dX11_lose_13 : decode cX11_lose 13 = .ok (.aload_n 0, 1) := by decide +kernel
theorem dX11_lose_14 : decode cX11_lose 14 = .ok (.getfield 55, 3) := by decide +kernel
theorem dX11_lose_17 : decode cX11_lose 17 = .ok (.iload_n 1, 1) := by decide +kernel
theorem dX11_lose_18 : decode cX11_lose 18 = .ok (.bipush (-3), 2) := by decide +kernel
theorem dX11_lose_20 : decode cX11_lose 20 = .ok (.iastore, 1) := by decide +kernel
theorem dX11_lose_21 : decode cX11_lose 21 = .ok (.iinc 1 1, 3) := by decide +kernel
theorem dX11_lose_24 : decode cX11_lose 24 = .ok (.goto (-17), 3) := by decide +kernel
theorem dX11_lose_27 : decode cX11_lose 27 = .ok (.return_, 1) := by decide +kernel
theorem dJ7_fill_53178_0 : decode cJ7_fill_53178 0 = .ok (.iconst 0, 1) := by decide +kernel
theorem dJ7_fill_53178_1 : decode cJ7_fill_53178 1 = .ok (.istore_n 2, 1) := by decide +kernel
theorem dJ7_fill_53178_2 : decode cJ7_fill_53178 2 = .ok (.aload_n 0, 1) := by decide +kernel
theorem dJ7_fill_53178_3 : decode cJ7_fill_53178 3 = .ok (.arraylength, 1) := by decide +kernel
theorem dJ7_fill_53178_4 : decode cJ7_fill_53178 4 = .ok (.istore_n 3, 1) := by decide +kernel
theorem dJ7_fill_53178_5 : decode cJ7_fill_53178 5 = .ok (.iload_n 2, 1) := by decide +kernel
theorem dJ7_fill_53178_6 : decode cJ7_fill_53178 6 = .ok (.iload_n 3, 1) := by decide +kernel
theorem dJ7_fill_53178_7 : decode cJ7_fill_53178 7 = .ok (.if_icmp .ge 13, 3) := by decide +kernel
theorem dJ7_fill_53178_10 : decode cJ7_fill_53178 10 = .ok (.aload_n 0, 1) := by decide +kernel
theorem dJ7_fill_53178_11 : decode cJ7_fill_53178 11 = .ok (.iload_n 2, 1) := by decide +kernel
theorem dJ7_fill_53178_12 : decode cJ7_fill_53178 12 = .ok (.iload_n 1, 1) := by decide +kernel
theorem dJ7_fill_53178_13 : decode cJ7_fill_53178 13 = .ok (.iastore, 1) := by decide +kernel
theorem dJ7_fill_53178_14 : decode cJ7_fill_53178 14 = .ok (.iinc 2 1, 3) := by decide +kernel
theorem dJ7_fill_53178_17 : decode cJ7_fill_53178 17 = .ok (.goto (-12), 3) := by decide +kernel
theorem dJ7_fill_53178_20 : decode cJ7_fill_53178 20 = .ok (.return_, 1) := by decide +kernel
theorem dL_law_0 : decode cL_law 0 = .ok (.new 8, 3) := by decide +kernel
theorem dL_law_3 : decode cL_law 3 = .ok (.dup, 1) := by decide +kernel
theorem dL_law_4 : decode cL_law 4 = .ok (.invokespecial 15, 3) := by decide +kernel
theorem dL_law_7 : decode cL_law 7 = .ok (.astore_n 1, 1) := by decide +kernel
theorem dL_law_8 : decode cL_law 8 = .ok (.new 16, 3) := by decide +kernel
theorem dL_law_11 : decode cL_law 11 = .ok (.dup, 1) := by decide +kernel
theorem dL_law_12 : decode cL_law 12 = .ok (.invokespecial 18, 3) := by decide +kernel
theorem dL_law_15 : decode cL_law 15 = .ok (.astore_n 2, 1) := by decide +kernel
end
section
/-! A judgement over the system's own world: cell i of it lies at base + i; values are numbers, .ref i (cell i), .retAddr j (static row j). -/
abbrev PE : Type := (FieldType × vp_A) ⊕ (Nat × List Value)
abbrev PH : Type := List PE
/-- a method: name, code, maxLocals, what it returns, frames and locals that it needs below it -/
abbrev MD : Type := MethodName × ByteArray × Nat × Option FieldType × Nat × Nat
abbrev mcode (M : MD) : ByteArray := M.2.1
abbrev mxl (M : MD) : Nat := M.2.2.1
abbrev mret (M : MD) : Option FieldType := M.2.2.2.1
abbrev mfr (M : MD) : Nat := M.2.2.2.2.1
abbrev mlo (M : MD) : Nat := M.2.2.2.2.2
def pv (σ : Nat → Nat) (base : Nat) (v : Value) : Value := match v with
  | .ref i => .ref (base + i)
  | .retAddr j => .ref (σ j)
  | w => w
def lw_good : List Cond := lw_tbl.filter goodWord
def pws (M : MD) : List Cond := Cond.code M.1 (mcode M) (mxl M) (mret M) :: lw_good
def pat (D : va_G) (Y : FieldType → ClassId) (σ : Nat → Nat) (base i : Nat) (e : PE) (H : Heap) : Prop := match e with
  | .inl a => H[base + i]? = some (vp_cell (Y a.1) a.2)
  | .inr o => match vwCl[o.1]? with
    | some r => t_OB (base + i) (D.1 o.1) r.2.2 (D.2 o.1) H (vp_V (o.2.map (pv σ base)))
    | none => True
def pwd (D : va_G) (Y : FieldType → ClassId) (σ : Nat → Nat) (base : Nat) (h : PH) (H : Heap) : Prop := H.size = base + h.length ∧ ∀ (i : Nat) (e : PE), h[i]? = some e → pat D Y σ base i e H
/-- the static rows: the class's four tables, and the script -/
def ptab (Γ : Nat × (Nat → Int32)) (j : Nat) : Nat × (Nat → Int32) := match j with
  | 0 => (5, fun k => ([0, 1, 16, 1, 1] : List Int32).getD k 0)
  | 1 => (5, fun k => ([0, 0, 256, 0, 0] : List Int32).getD k 0)
  | 2 => (5, fun k => ([1, 2, 2, 4, 64] : List Int32).getD k 0)
  | 3 => (5, fun k => ([0, 0, 256, 1024, 512] : List Int32).getD k 0)
  | _ => Γ
def pnam (j : Nat) : String := match j with
  | 0 => "FILTER_STEPS"
  | 1 => "FILTER_MEMORY"
  | 2 => "PACKER_STEPS"
  | _ => "PACKER_MEMORY"
abbrev pA (base : Nat) : Nat → Prop := fun q => base ≤ q
def pnest : List Cond := lw_tbl.filter (fun w => match w with
  | .fieldLinkNest _ _ _ _ _ _ => true
  | .methodLinkNest _ _ _ _ => true
  | .castable _ _ => true
  | .declares _ => true
  | _ => false)
/-- launches without stack traces -/
abbrev LC : Type := {l : Launch // l.stackTraces = false}
/-- what a throw of the class needs: its text, and two statics of Throwable -/
def pexc (_U : State) (_base : Nat) : Prop := True
def penv (Γ : Nat × (Nat → Int32)) (U : State) (D : va_G) (Y : FieldType → ClassId) (σ : Nat → Nat) (base : Nat) : Prop :=
  (base ≤ U.heap.size ∧ pexc U base) ∧ va_K D vwCl [(Y .int, .int), (Y .long, .long)] U ∧ (∀ w ∈ pnest, va_Nw w U) ∧ (∀ j, j < 4 → va_Z "ChainChoice" (pnam j) "[I" (.ref (σ j)) (pA base) U U.heap) ∧ ∀ j, j < 5 → va_T .int (σ j) (ptab Γ j).1 (fun k => .int ((ptab Γ j).2 k)) (pA base) U U.heap
def pcx (Γ : Nat × (Nat → Int32)) (M : MD) (p : Program) (R : Room) (s : State) (m : MethodId) (args : Array Value) (meth : Method) (c : Code) (D : va_G) (Y : FieldType → ClassId) (σ : Nat → Nat) (base : Nat) : Prop :=
  p.tables.exec = Jvm.exec ∧ c.code = mcode M ∧ meth.sig.returnType = mret M ∧ c.maxLocals = mxl M ∧ s.vm.findClass M.1.cls = some m.cls ∧ (∀ w ∈ lw_good, w.before args s = true) ∧ meth.locks = false ∧ meth.name = M.1.name ∧ mfr M ≤ R.frames ∧ mlo M ≤ R.locals ∧ penv Γ s D Y σ base
def plv (σ : Nat → Nat) (base : Nat) (ls : Array Slot) (nL : Nat) (l : List Value) : Prop := ls.size = nL ∧ lv_wf ls ∧ ∀ (i : Nat) (v : Value), l[i]? = some v → ¬ v = .float 0 → ls[i]? = some (.val (pv σ base v))
def pret (M : MD) (pc : Nat) (r : Option Value) : Prop := match r with
  | none => (decode (mcode M) pc = .ok (.return_, 1) ∧ mret M = none) ∨ (mfr M = 10 ∧ pc = 16)
  | some (.int x) => decode (mcode M) pc = .ok (.ireturn, 1) ∧ (mret M = some .int ∨ (mret M = some .boolean ∧ narrow .boolean (.int x) = .int x))
  | some (.long _) => decode (mcode M) pc = .ok (.lreturn, 1) ∧ mret M = some .long
  | some (.ref _) => decode (mcode M) pc = .ok (.areturn, 1) ∧ ∃ C, mret M = some (.object C)
  | _ => False
def PW (Γ : Nat × (Nat → Int32)) (M : MD) (pc : Nat) (l st : List Value) (h : PH) (bc bs : Nat) (Q : Option Value → PH → Prop) : Prop :=
  ∀ (p : Program) (lc : LC) (e : Env) (R : Room) (s : State) (m : MethodId) (args : Array Value) (below : List Frame) (meth : Method) (c : Code) (D : va_G) (Y : FieldType → ClassId) (σ : Nat → Nat) (base : Nat) (H : Heap) (locs : List Loc) (cells slots : Nat) (ls : Array Slot) (Z : State → Prop),
    pcx Γ M p R s m args meth c D Y σ base → pwd D Y σ base h H → va_S (pA base) s.heap H locs → plv σ base ls (mxl M) l → cells + bc ≤ R.cells → slots + bs ≤ R.slots →
    (∀ (r : Option Value) (h' : PH) (H' : Heap) (locs' : List Loc) (cells' slots' : Nat) (ls' : Array Slot) (pc' : Nat), Q r h' → pwd D Y σ base h' H' → va_S (pA base) s.heap H' locs' → cells' ≤ cells + bc → slots' ≤ slots + bs → pret M pc' r → W p lc.1 e R s m args below meth c H' locs' cells' slots' Z (F0 m pc' ls' ((r.map (pv σ base)).toList))) →
    W p lc.1 e R s m args below meth c H locs cells slots Z (F0 m pc ls (st.map (pv σ base)))
def PM (Γ : Nat × (Nat → Int32)) (M : MD) (as : List Value) (h : PH) (bc bs : Nat) (Q : Option Value → PH → Prop) : Prop :=
  ∀ (lc : LC) (D : va_G) (Y : FieldType → ClassId) (σ : Nat → Nat) (base : Nat),
    Met lc.1 M.1 (pws M) { frames := mfr M, cells := bc, slots := bs, locals := mlo M } (va_Pc (as.map (pv σ base)) (fun U => pwd D Y σ base h U.heap ∧ penv Γ U D Y σ base))
      (fun _ st oc t => (∃ (r : Option Value) (h' : PH), Q r h' ∧ oc = .returned (r.map (pv σ base)) ∧ pwd D Y σ base h' t.heap) ∧ va_F (pA base) st t) bc bs (pA base)
theorem pv_cat (σ : Nat → Nat) (base : Nat) (v : Value) : (pv σ base v).category = v.category := by cases v <;> rfl
theorem lw_good_in : ∀ w ∈ lw_good, w ∈ lw_tbl := fun w h => (List.mem_filter.mp h).1
theorem lw_good_good : ∀ w ∈ lw_good, goodWord w = true := fun w h => (List.mem_filter.mp h).2
theorem lw_mem {w : Cond} (h : w ∈ lw_tbl) (g : goodWord w = true) : w ∈ lw_good := List.mem_filter.mpr ⟨h, g⟩
theorem pws_good {M : MD} (hc : Cond.code M.1 (mcode M) (mxl M) (mret M) ∈ lw_good) : GoodIn lw_good (pws M) := by
  intro w hw
  rcases List.mem_cons.mp hw with rfl | h
  · exact ⟨hc, good_of_word (lw_good_good _ hc)⟩
  · exact ⟨h, good_of_word (lw_good_good _ h)⟩
theorem penv_moved {Γ : Nat × (Nat → Int32)} {s U : State} {D : va_G} {Y : FieldType → ClassId} {σ : Nat → Nat} {base : Nat} {locs : List Loc} (hW : s.WarmedH U.vm) (hS : va_S (pA base) s.heap U.heap locs) (h : penv Γ s D Y σ base) : penv Γ U D Y σ base := by
  obtain ⟨h0, h1, h2, h3, h4⟩ := h
  obtain ⟨h0, _⟩ := h0
  refine ⟨⟨Nat.le_trans h0 hS.1, trivial⟩, va_K.moved hW.alike h1, fun w hw => ?_, fun j hj => ((h3 j hj).moved hW.alike).kept hS.2.1, fun j hj => ((h4 j hj).moved hW.alike).kept hS.2.1⟩
  have h9 := (List.mem_filter.mp hw).2
  have h8 := h2 w hw
  cases w <;> first | exact absurd h9 Bool.false_ne_true | exact va_Nw.warmF hW h8 | exact va_Nw.warmM hW h8 | exact va_Nw.warmC hW h8 | exact va_Nw.warmD hW h8
theorem penv_vm {Γ : Nat × (Nat → Int32)} {s U : State} {D : va_G} {Y : FieldType → ClassId} {σ : Nat → Nat} {base : Nat} (hv : s.vm = U.vm) (hH : s.heap = U.heap) (h : penv Γ s D Y σ base) : penv Γ U D Y σ base := by
  obtain ⟨h0, h1, h2, h3, h4⟩ := h
  have ha : s.vm.Alike U.vm := by rw [hv]; exact Vm.Alike.refl _
  obtain ⟨h0, _⟩ := h0
  refine ⟨⟨by rw [← hH]; exact h0, trivial⟩, va_K.moved ha h1, fun w hw => ?_, fun j hj => by rw [← hH]; exact (h3 j hj).moved ha, fun j hj => by rw [← hH]; exact (h4 j hj).moved ha⟩
  have h9 := (List.mem_filter.mp hw).2
  have h8 := h2 w hw
  cases w <;> first | exact absurd h9 Bool.false_ne_true | exact va_Nw.same rfl hv h8
/-- the locals with which a method begins -/
theorem plv_entry {σ : Nat → Nat} {base n : Nat} (as : List Value) (hc : ∀ v ∈ as, v.category = 1) (hn : as.length ≤ n) :
    plv σ base ((lg_sl (as.map (pv σ base)) ++ List.replicate (n - (lg_sl (as.map (pv σ base))).length) Slot.unset).toArray) n (as ++ List.replicate (n - as.length) (.float 0)) := by
  have key : ∀ (vs : List Value), (∀ v ∈ vs, v.category = 1) → lg_sl vs = vs.map Slot.val := by
    intro vs
    induction vs with
    | nil => intro _; rfl
    | cons a r ih =>
      intro h
      have h1 : a.category = 1 := h a List.mem_cons_self
      show (if a.category = 2 then [Slot.val a, .second] else [.val a]) ++ lg_sl r = _
      rw [ih (fun v hv => h v (List.mem_cons_of_mem _ hv)), if_neg (by omega)]
      rfl
  have hk := key (as.map (pv σ base)) (fun v hv => by
    obtain ⟨w, h1, rfl⟩ := List.mem_map.mp hv
    rw [pv_cat]
    exact hc w h1)
  have he := lv_entry (as.map (pv σ base)) (n := n) (by rw [hk]; simpa using hn)
  refine ⟨he.1, he.2.1, fun i v hv hf => ?_⟩
  rw [hk]
  by_cases hi : i < as.length
  · rw [List.getElem?_append_left hi] at hv
    simp [hi, List.getElem?_append_left, hv]
    have := (List.getElem?_eq_some_iff.mp hv).2
    rw [this]
  · rw [List.getElem?_append_right (by omega)] at hv
    have := List.mem_of_getElem? hv
    rw [List.mem_replicate] at this
    exact absurd this.2 hf
theorem PM.of {Γ : Nat × (Nat → Int32)} {M : MD} {as : List Value} {h : PH} {bc bs : Nat} {Q : Option Value → PH → Prop} (hy : plainName M.1.cls = true) (hc : ∀ v ∈ as, v.category = 1) (hn : as.length ≤ mxl M) (hnl : ¬ mfr M = 10)
    (hw : PW Γ M 0 (as ++ List.replicate (mxl M - as.length) (.float 0)) [] h bc bs Q) : PM Γ M as h bc bs Q := by
  intro lc D Y σ base
  refine Met.ofW (cc := mcode M) (maxL := mxl M) (ret := mret M) hy rfl ?_
  intro p e s m args below meth c s₁ B hml hv
  obtain ⟨rfl, hP, hE⟩ := hv
  have hts := atoms_spec (ws := pws M) B.pre
  have hnm : meth.name = M.1.name := (name_of_methodNamed B.named B.method).1
  rw [lg_entry_eq]
  have hlk := B.notSynchronized
  refine hw p lc e _ s m _ below meth c D Y σ base s.heap [] 0 0 _ _ ⟨B.exec, B.bytes, B.returns, hml, findClass_of_methodNamed B.named, fun w hw => hts w (List.mem_cons_of_mem _ hw), hlk, hnm, Nat.le_refl _, Nat.le_refl _, hE⟩ hP va_S.rf (plv_entry as hc hn) (by show 0 + bc ≤ bc; omega) (by show 0 + bs ≤ bs; omega) ?_
  intro r h' H' locs' cells' slots' ls' pc' hQ hP' hS' hc' hs' hret
  refine W.widen (k := bc) (n := bs) (by omega) (by omega) ?_
  match r, hQ, hret with
  | none, hQ, hret =>
    have hret := hret.resolve_right (fun z => hnl z.1)
    exact W.vret B.exec B.bytes (B.returns.trans hret.2) (fun t ht hW => ⟨⟨none, h', hQ, rfl, by rw [ht]; exact hP'⟩, hS'.F ht⟩) hS'.2.2 hret.1 hlk
  | some (.int x), hQ, hret =>
    rcases hret.2 with hr | ⟨hr, hx⟩
    · exact W.iret B.exec B.bytes (B.returns.trans hr) (fun t ht hW => ⟨⟨some (.int x), h', hQ, rfl, by rw [ht]; exact hP'⟩, hS'.F ht⟩) hS'.2.2 hret.1 hlk
    · exact W.zret B.exec B.bytes (B.returns.trans hr) hx (fun t ht hW => ⟨⟨some (.int x), h', hQ, rfl, by rw [ht]; exact hP'⟩, hS'.F ht⟩) hS'.2.2 hret.1 hlk
  | some (.long x), hQ, hret =>
    exact W.lret B.exec B.bytes (B.returns.trans hret.2) (fun t ht hW => ⟨⟨some (.long x), h', hQ, rfl, by rw [ht]; exact hP'⟩, hS'.F ht⟩) hS'.2.2 hret.1 hlk
  | some (.ref x), hQ, hret =>
    obtain ⟨C, hr⟩ := hret.2
    exact W.aret B.exec B.bytes (B.returns.trans hr) (Or.inl ⟨C, rfl⟩) (Or.inr ⟨_, rfl⟩) (fun t ht hW => ⟨⟨some (.ref x), h', hQ, rfl, by rw [ht]; exact hP'⟩, hS'.F ht⟩) hS'.2.2 hret.1 hlk
  | some .null, hQ, hret => exact hret.elim
  | some (.float _), hQ, hret => exact hret.elim
  | some (.double _), hQ, hret => exact hret.elim
  | some (.retAddr _), hQ, hret => exact hret.elim
end
section
theorem pw_iconst {Γ : Nat × (Nat → Int32)} {M : MD} {pc : Nat} {l st : List Value} {h : PH} {bc bs : Nat} {Q : Option Value → PH → Prop} (v : Int32) {n : Int} (hv : Int32.ofInt n = v) (hdg : decode (mcode M) pc = .ok (.iconst n, 1)) (k : PW Γ M (pc + 1) l (.int v :: st) h bc bs Q) : PW Γ M pc l (st) h bc bs Q := by
  intro p lc e R s m args below meth c D Y σ base H locs cells slots ls Z C hP hS hL hc hs fin
  exact lv_iconst C.1 C.2.1 hdg hv (k p lc e R s m args below meth c D Y σ base H locs cells slots ls Z C hP hS hL hc hs fin)
theorem pw_bipush {Γ : Nat × (Nat → Int32)} {M : MD} {pc : Nat} {l st : List Value} {h : PH} {bc bs : Nat} {Q : Option Value → PH → Prop} (v : Int32) {n : Int} (hv : (Int8.ofInt n).toInt32 = v) (hdg : decode (mcode M) pc = .ok (.bipush n, 2)) (k : PW Γ M (pc + 2) l (.int v :: st) h bc bs Q) : PW Γ M pc l (st) h bc bs Q := by
  intro p lc e R s m args below meth c D Y σ base H locs cells slots ls Z C hP hS hL hc hs fin
  exact lv_bipush C.1 C.2.1 hdg hv (k p lc e R s m args below meth c D Y σ base H locs cells slots ls Z C hP hS hL hc hs fin)
theorem pw_sipush {Γ : Nat × (Nat → Int32)} {M : MD} {pc : Nat} {l st : List Value} {h : PH} {bc bs : Nat} {Q : Option Value → PH → Prop} (v : Int32) {n : Int} (hv : (Int16.ofInt n).toInt32 = v) (hdg : decode (mcode M) pc = .ok (.sipush n, 3)) (k : PW Γ M (pc + 3) l (.int v :: st) h bc bs Q) : PW Γ M pc l (st) h bc bs Q := by
  intro p lc e R s m args below meth c D Y σ base H locs cells slots ls Z C hP hS hL hc hs fin
  exact lv_sipush C.1 C.2.1 hdg hv (k p lc e R s m args below meth c D Y σ base H locs cells slots ls Z C hP hS hL hc hs fin)
theorem pw_iload_n {Γ : Nat × (Nat → Int32)} {M : MD} {pc : Nat} {l st : List Value} {h : PH} {bc bs : Nat} {Q : Option Value → PH → Prop} {i : Fin 4} {x : Int32} (hl : l[(i : Nat)]? = some (.int x)) (hdg : decode (mcode M) pc = .ok (.iload_n i, 1)) (k : PW Γ M (pc + 1) l (.int x :: st) h bc bs Q) : PW Γ M pc l (st) h bc bs Q := by
  intro p lc e R s m args below meth c D Y σ base H locs cells slots ls Z C hP hS hL hc hs fin
  exact lv_iload_n C.1 C.2.1 hdg rfl (hL.2.2 _ _ hl (fun q => by cases q)) (k p lc e R s m args below meth c D Y σ base H locs cells slots ls Z C hP hS hL hc hs fin)
theorem pw_aload_n {Γ : Nat × (Nat → Int32)} {M : MD} {pc : Nat} {l st : List Value} {h : PH} {bc bs : Nat} {Q : Option Value → PH → Prop} {i : Fin 4} {x : Nat} (hl : l[(i : Nat)]? = some (.ref x)) (hdg : decode (mcode M) pc = .ok (.aload_n i, 1)) (k : PW Γ M (pc + 1) l (.ref x :: st) h bc bs Q) : PW Γ M pc l (st) h bc bs Q := by
  intro p lc e R s m args below meth c D Y σ base H locs cells slots ls Z C hP hS hL hc hs fin
  exact lv_aload_n C.1 C.2.1 hdg rfl (hL.2.2 _ _ hl (fun q => by cases q)) (k p lc e R s m args below meth c D Y σ base H locs cells slots ls Z C hP hS hL hc hs fin)
theorem pw_dup {Γ : Nat × (Nat → Int32)} {M : MD} {pc : Nat} {l st : List Value} {h : PH} {bc bs : Nat} {Q : Option Value → PH → Prop} {v : Value} (hv : v.category = 1) (hdg : decode (mcode M) pc = .ok (.dup, 1)) (k : PW Γ M (pc + 1) l (v :: v :: st) h bc bs Q) : PW Γ M pc l (v :: st) h bc bs Q := by
  intro p lc e R s m args below meth c D Y σ base H locs cells slots ls Z C hP hS hL hc hs fin
  exact lv_dup C.1 C.2.1 hdg (by rw [pv_cat]; exact hv) (k p lc e R s m args below meth c D Y σ base H locs cells slots ls Z C hP hS hL hc hs fin)
theorem pw_icmp_ge {Γ : Nat × (Nat → Int32)} {M : MD} {pc : Nat} {l st : List Value} {h : PH} {bc bs : Nat} {Q : Option Value → PH → Prop} {x y : Int32} {off : Int} (tgt : Nat) (hdg : decode (mcode M) pc = .ok (.if_icmp .ge off, 3)) (ht : (pc : Int) + off = (tgt : Int)) (kt : y ≤ x → PW Γ M tgt l st h bc bs Q) (kf : ¬ y ≤ x → PW Γ M (pc + 3) l st h bc bs Q) : PW Γ M pc l (.int y :: .int x :: st) h bc bs Q := by
  intro p lc e R s m args below meth c D Y σ base H locs cells slots ls Z C hP hS hL hc hs fin
  exact lv_icmp_ge C.1 C.2.1 hdg ht (fun q => kt q p lc e R s m args below meth c D Y σ base H locs cells slots ls Z C hP hS hL hc hs fin) (fun q => kf q p lc e R s m args below meth c D Y σ base H locs cells slots ls Z C hP hS hL hc hs fin)
theorem pw_if_le {Γ : Nat × (Nat → Int32)} {M : MD} {pc : Nat} {l st : List Value} {h : PH} {bc bs : Nat} {Q : Option Value → PH → Prop} {x : Int32} {off : Int} (tgt : Nat) (hdg : decode (mcode M) pc = .ok (.ifCond .le off, 3)) (ht : (pc : Int) + off = (tgt : Int)) (kt : x ≤ 0 → PW Γ M tgt l st h bc bs Q) (kf : ¬ x ≤ 0 → PW Γ M (pc + 3) l st h bc bs Q) : PW Γ M pc l (.int x :: st) h bc bs Q := by
  intro p lc e R s m args below meth c D Y σ base H locs cells slots ls Z C hP hS hL hc hs fin
  exact lv_if_le C.1 C.2.1 hdg ht (fun q => kt q p lc e R s m args below meth c D Y σ base H locs cells slots ls Z C hP hS hL hc hs fin) (fun q => kf q p lc e R s m args below meth c D Y σ base H locs cells slots ls Z C hP hS hL hc hs fin)
theorem pw_goto {Γ : Nat × (Nat → Int32)} {M : MD} {pc : Nat} {l st : List Value} {h : PH} {bc bs : Nat} {Q : Option Value → PH → Prop} {off : Int} (tgt : Nat) (hdg : decode (mcode M) pc = .ok (.goto off, 3)) (ht : (pc : Int) + off = (tgt : Int)) (k : PW Γ M tgt l st h bc bs Q) : PW Γ M pc l st h bc bs Q := by
  intro p lc e R s m args below meth c D Y σ base H locs cells slots ls Z C hP hS hL hc hs fin
  exact lv_goto C.1 C.2.1 hdg ht (k p lc e R s m args below meth c D Y σ base H locs cells slots ls Z C hP hS hL hc hs fin)
/-- no value of two slots stands just below place i -/
def pnl (l : List Value) (i : Nat) : Bool := match i with
  | 0 => true
  | j + 1 => match l[j]? with
    | some v => v.category == 1
    | none => true
def plv_list (σ : Nat → Nat) (base : Nat) (l : List Value) : List (Nat × Value) := (List.range l.length).filterMap (fun i => match l[i]? with
  | some v => if v = .float 0 then none else some (i, pv σ base v)
  | none => none)
theorem plv_mem {σ : Nat → Nat} {base : Nat} {l : List Value} {q : Nat × Value} : q ∈ plv_list σ base l ↔ ∃ v, l[q.1]? = some v ∧ ¬ v = .float 0 ∧ q.2 = pv σ base v := by
  unfold plv_list
  rw [List.mem_filterMap]
  constructor
  · rintro ⟨i, hi, h⟩
    cases hv : l[i]? with
    | none => simp [hv] at h
    | some v =>
      simp only [hv] at h
      by_cases hf : v = .float 0
      · simp [hf] at h
      · rw [if_neg hf] at h
        cases h
        exact ⟨v, hv, hf, rfl⟩
  · rintro ⟨v, hv, hf, h2⟩
    refine ⟨q.1, List.mem_range.mpr (List.getElem?_eq_some_iff.mp hv).1, ?_⟩
    simp only [hv, if_neg hf]
    rw [← h2]
theorem plv_has {σ : Nat → Nat} {base n : Nat} {ls : Array Slot} {l : List Value} (h : plv σ base ls n l) : lv_has ls n (plv_list σ base l) := by
  refine ⟨h.1, h.2.1, fun q hq => ?_⟩
  obtain ⟨v, hv, hf, h2⟩ := plv_mem.mp hq
  rw [h2]
  exact h.2.2 _ _ hv hf
theorem plv_store {σ : Nat → Nat} {base n i : Nat} {ls : Array Slot} {l : List Value} {v : Value} (hn : pnl l i = true) (h : lv_has ls n ((i, pv σ base v) :: (plv_list σ base l).filter (fun q => !(q.1 == i) && !(q.1 + 1 == i && q.2.category == 2)))) : plv σ base ls n (l.set i v) := by
  refine ⟨h.1, h.2.1, fun j w hw hf => ?_⟩
  by_cases hj : j = i
  · subst hj
    have hl : j < l.length := by
      have := (List.getElem?_eq_some_iff.mp hw).1
      simpa using this
    rw [List.getElem?_set_self hl] at hw
    cases hw
    exact h.2.2 _ List.mem_cons_self
  · rw [List.getElem?_set_ne (Ne.symm hj)] at hw
    refine h.2.2 (j, pv σ base w) (List.mem_cons_of_mem _ (List.mem_filter.mpr ⟨plv_mem.mpr ⟨w, hw, hf, rfl⟩, ?_⟩))
    have e1 : (j == i) = false := by simpa using hj
    simp only [e1, Bool.not_false, Bool.true_and, Bool.not_eq_true']
    by_cases h2 : j + 1 = i
    · subst h2
      have hc : w.category = 1 := by
        simp only [pnl, hw] at hn
        simpa using hn
      simp [pv_cat, hc]
    · simp [h2]
theorem pw_istore_n {Γ : Nat × (Nat → Int32)} {M : MD} {pc : Nat} {l st : List Value} {h : PH} {bc bs : Nat} {Q : Option Value → PH → Prop} {i : Fin 4} {x : Int32} (hdg : decode (mcode M) pc = .ok (.istore_n i, 1)) (hi : (i : Nat) < mxl M) (hn : pnl l (i : Nat) = true) (k : PW Γ M (pc + 1) (l.set (i : Nat) (.int x)) st h bc bs Q) : PW Γ M pc l (.int x :: st) h bc bs Q := by
  intro p lc e R s m args below meth c D Y σ base H locs cells slots ls Z C hP hS hL hc hs fin
  exact lv_istore_n C.1 C.2.1 hdg rfl (plv_has hL) hi rfl (fun ls' h' => k p lc e R s m args below meth c D Y σ base H locs cells slots ls' Z C hP hS (plv_store hn h') hc hs fin)
theorem pw_astore_n {Γ : Nat × (Nat → Int32)} {M : MD} {pc : Nat} {l st : List Value} {h : PH} {bc bs : Nat} {Q : Option Value → PH → Prop} {i : Fin 4} {x : Nat} (hdg : decode (mcode M) pc = .ok (.astore_n i, 1)) (hi : (i : Nat) < mxl M) (hn : pnl l (i : Nat) = true) (k : PW Γ M (pc + 1) (l.set (i : Nat) (.ref x)) st h bc bs Q) : PW Γ M pc l (.ref x :: st) h bc bs Q := by
  intro p lc e R s m args below meth c D Y σ base H locs cells slots ls Z C hP hS hL hc hs fin
  exact lv_astore_n C.1 C.2.1 hdg rfl (plv_has hL) hi rfl (fun ls' h' => k p lc e R s m args below meth c D Y σ base H locs cells slots ls' Z C hP hS (plv_store hn h') hc hs fin)
theorem pw_iinc {Γ : Nat × (Nat → Int32)} {M : MD} {pc : Nat} {l st : List Value} {h : PH} {bc bs : Nat} {Q : Option Value → PH → Prop} {i : Nat} {n : Int} {x : Int32} (d : Int32) (hdg : decode (mcode M) pc = .ok (.iinc i n, 3)) (hd : Int32.ofInt n = d) (hl : l[i]? = some (.int x)) (hi : i < mxl M) (hn : pnl l i = true) (k : PW Γ M (pc + 3) (l.set i (.int (x + d))) st h bc bs Q) : PW Γ M pc l st h bc bs Q := by
  intro p lc e R s m args below meth c D Y σ base H locs cells slots ls Z C hP hS hL hc hs fin
  obtain ⟨j, hj⟩ := List.getElem?_of_mem (plv_mem.mpr ⟨_, hl, (fun q => by cases q), rfl⟩ : (i, pv σ base (.int x)) ∈ plv_list σ base l)
  exact lv_iinc C.1 C.2.1 hdg (plv_has hL) hj (by rw [hd]) hi rfl (fun ls' h' => k p lc e R s m args below meth c D Y σ base H locs cells slots ls' Z C hP hS (plv_store hn h') hc hs fin)
theorem pw_vret {Γ : Nat × (Nat → Int32)} {M : MD} {pc : Nat} {l : List Value} {h : PH} {bc bs : Nat} {Q : Option Value → PH → Prop} (hdg : decode (mcode M) pc = .ok (.return_, 1)) (hr : mret M = none) (k : Q none h) : PW Γ M pc l [] h bc bs Q := by
  intro p lc e R s m args below meth c D Y σ base H locs cells slots ls Z C hP hS hL hc hs fin
  exact fin none h H locs cells slots ls pc k hP hS (by omega) (by omega) (Or.inl ⟨hdg, hr⟩)
end
section
/-! the heap's instructions, and calls -/
theorem pat_kept {D : va_G} {Y : FieldType → ClassId} {σ : Nat → Nat} {base i : Nat} {e : PE} {H H1 : Heap} (hq : H1[base + i]? = H[base + i]?) (h : pat D Y σ base i e H) : pat D Y σ base i e H1 := by
  cases e with
  | inl a => exact hq.trans h
  | inr o =>
    unfold pat at h ⊢
    cases hc : vwCl[o.1]? with
    | none => simp only [hc]
    | some r =>
      simp only [hc] at h ⊢
      exact h.kept hq
theorem pwd_set {D : va_G} {Y : FieldType → ClassId} {σ : Nat → Nat} {base i : Nat} {h : PH} {e : PE} {H H1 : Heap} (hP : pwd D Y σ base h H) (hz : H1.size = H.size) (oq : ∀ q : Nat, q ≠ base + i → H1[q]? = H[q]?) (hn : pat D Y σ base i e H1) : pwd D Y σ base (h.set i e) H1 := by
  refine ⟨by rw [hz, hP.1, List.length_set], fun j x hx => ?_⟩
  by_cases hj : j = i
  · subst hj
    have hl : j < h.length := by
      have := (List.getElem?_eq_some_iff.mp hx).1
      simpa using this
    rw [List.getElem?_set_self hl] at hx
    cases hx
    exact hn
  · rw [List.getElem?_set_ne (Ne.symm hj)] at hx
    exact pat_kept (oq _ (by omega)) (hP.2 j x hx)
theorem pwd_push {D : va_G} {Y : FieldType → ClassId} {σ : Nat → Nat} {base : Nat} {h : PH} {e : PE} {H H1 : Heap} (hP : pwd D Y σ base h H) (hz : H1.size = H.size + 1) (oq : ∀ q : Nat, q < H.size → H1[q]? = H[q]?) (hn : pat D Y σ base h.length e H1) : pwd D Y σ base (h ++ [e]) H1 := by
  refine ⟨by rw [hz, hP.1, List.length_append]; rfl, fun j x hx => ?_⟩
  by_cases hj : j < h.length
  · rw [List.getElem?_append_left hj] at hx
    exact pat_kept (oq _ (by rw [hP.1]; omega)) (hP.2 j x hx)
  · rw [List.getElem?_append_right (by omega)] at hx
    have h0 : j - h.length < 1 := (List.getElem?_eq_some_iff.mp hx).1
    have hj2 : j = h.length := by omega
    subst hj2
    rw [Nat.sub_self] at hx
    cases hx
    exact hn
/-- entry idx of own's constant pool is field k of class ci -/
def pfl (own : String) (idx ci k : Nat) (fin : Bool) (ty : FieldType) : Prop :=
  ∃ (C : String) (T : u_T) (N : Nat) (ty0 : Nat → FieldType), vwCl[ci]? = some (C, T, N) ∧ k < N ∧ (∀ w ∈ u_ws C T N, w ∈ lw_good) ∧ Cond.fieldLink own idx (T k).1 (T k).2.1 (T k).2.2.1 ∈ lw_good ∧ (T k).2.2.2 = fin ∧ (fin = true → (T k).1 = own) ∧ parseFieldDescriptor (T k).2.2.1 = some ty ∧ (∀ k, k < N → parseFieldDescriptor (T k).2.2.1 = some (ty0 k)) ∧ (∀ a, a < N → ∀ b, b < N → a ≠ b → (T a).2.1 ≠ (T b).2.1)
section
variable {Γ : Nat × (Nat → Int32)} {M : MD} {pc : Nat} {l st : List Value} {h : PH} {bc bs : Nat} {Q : Option Value → PH → Prop}
theorem pw_getf {idx ci k i : Nat} {fn : Bool} {ty : FieldType} {fs : List Value} {v : Value} (hdg : decode (mcode M) pc = .ok (.getfield idx, 3)) (hf : pfl M.1.cls idx ci k fn ty) (he : h[i]? = some (.inr (ci, fs))) (hv : fs[k]? = some v) (kk : PW Γ M (pc + 3) l (v :: st) h bc bs Q) : PW Γ M pc l (.ref i :: st) h bc bs Q := by
  intro p lc e R s m args below meth c D Y σ base H locs cells slots ls Z C hP hS hL hc hs fin
  obtain ⟨Cn, T, N, ty0, h1, h2, h3, h4, h5, h6, h7, h8, h9⟩ := hf
  have hp := hP.2 i _ he
  simp only [pat, h1] at hp
  have hP1 : va_P D vwCl [(base + i, .inr (ci, fs.map (pv σ base)))] H := fun k q hk => by
    cases k with
    | zero => cases hk; exact ⟨_, h1, hp⟩
    | succ k => simp at hk
  exact va_get (D := D) (cl := vwCl) (ws := [(base + i, .inr (ci, fs.map (pv σ base)))]) C.1 C.2.1 C.2.2.2.2.2.1 h3 C.2.2.2.2.1 C.2.2.2.2.2.2.2.2.2.2.2.1 hP1 0 rfl h1 k h2 (C.2.2.2.2.2.1 _ h4) (fun _ z => z) (v := pv σ base v) (by simp [hv]) hdg (kk p lc e R s m args below meth c D Y σ base H locs cells slots ls Z C hP hS hL hc hs fin)
theorem pw_putf {idx ci k i : Nat} {ty : FieldType} {fs : List Value} {v : Value} (hdg : decode (mcode M) pc = .ok (.putfield idx, 3)) (hf : pfl M.1.cls idx ci k false ty) (he : h[i]? = some (.inr (ci, fs))) (hl : k < fs.length) (hn : narrow ty v = v) (hfit : fits ty v = true) (hpv : ∀ σ base, narrow ty (pv σ base v) = pv σ base v ∧ fits ty (pv σ base v) = true) (kk : PW Γ M (pc + 3) l st (h.set i (.inr (ci, fs.set k v))) bc bs Q) : PW Γ M pc l (v :: .ref i :: st) h bc bs Q := by
  intro p lc e R s m args below meth c D Y σ base H locs cells slots ls Z C hP hS hL hc hs fin
  obtain ⟨Cn, T, N, ty0, h1, h2, h3, h4, h5, h6, h7, h8, h9⟩ := hf
  have hts := C.2.2.2.2.2.1
  have hK := C.2.2.2.2.2.2.2.2.2.2.2.1
  have hp := hP.2 i _ he
  simp only [pat, h1] at hp
  have hap := va_apart (own := M.1.cls) hts h3 ty0 h8 h9 hK h1
  obtain ⟨cell, q1, q2, q3, q4⟩ := hp
  obtain ⟨hS', hfc, kC, hkC, hkind⟩ := hK.1 ci _ h1
  obtain ⟨cf, kf, fi, f, hi, hsl⟩ := hS' k h2
  have hlay := hts _ (h3 _ (u_in_lay h2))
  unfold u_lay at hlay
  rw [if_neg (by rw [h5]; decide)] at hlay
  have hst := (u_facts hfc hkC (u_lays hts h3 h2) hi).1
  have h10 := u_store hfc hkC hkind hlay hi h7 (hpv σ base).1 (hpv σ base).2
  refine W.putK C.1 C.2.1 (f := f) ⟨C.2.2.2.2.1, hts _ h4, ⟨_, _, _, hi⟩, hst⟩ (by rw [q2]; exact h10) q1 q3 (by rw [hsl]; exact k2_hasslot (q4 k h2)) rfl rfl hdg fun H' e1 e2 e3 => ?_
  rw [hsl] at e1 ⊢
  refine kk p lc e R s m args below meth c D Y σ base H' _ cells slots ls Z C (pwd_set hP e2 e3 ?_) (hS.put e2 e3 (Nat.le_add_right _ _)) hL hc hs fin
  simp only [pat, h1]
  exact t_OB.to (V := updV (vp_V (fs.map (pv σ base))) k (pv σ base v)) ⟨_, e1, q2, q3, t_set q4 hap h2 _⟩ (fun j _ => by rw [vp_updV_set (by simpa using hl), List.map_set])
theorem pw_putF {idx ci k i : Nat} {ty : FieldType} {fs : List Value} {v : Value} (hdg : decode (mcode M) pc = .ok (.putfield idx, 3)) (hf : pfl M.1.cls idx ci k true ty) (hin : M.1.name = "<init>") (he : h[i]? = some (.inr (ci, fs))) (hl : k < fs.length) (hpv : ∀ σ base, narrow ty (pv σ base v) = pv σ base v ∧ fits ty (pv σ base v) = true) (kk : PW Γ M (pc + 3) l st (h.set i (.inr (ci, fs.set k v))) bc bs Q) : PW Γ M pc l (v :: .ref i :: st) h bc bs Q := by
  intro p lc e R s m args below meth c D Y σ base H locs cells slots ls Z C hP hS hL hc hs fin
  obtain ⟨Cn, T, N, ty0, h1, h2, h3, h4, h5, h6, h7, h8, h9⟩ := hf
  have hts := C.2.2.2.2.2.1
  have hK := C.2.2.2.2.2.2.2.2.2.2.2.1
  have hp := hP.2 i _ he
  simp only [pat, h1] at hp
  have hap := va_apart (own := M.1.cls) hts h3 ty0 h8 h9 hK h1
  obtain ⟨cell, q1, q2, q3, q4⟩ := hp
  obtain ⟨hS', hfc, kC, hkC, hkind⟩ := hK.1 ci _ h1
  obtain ⟨cf, kf, fi, f, hi, hsl⟩ := hS' k h2
  have hlay := hts _ (h3 _ (u_in_lay h2))
  unfold u_lay at hlay
  rw [if_pos h5] at hlay
  have hst := (u_facts hfc hkC (u_lays hts h3 h2) hi).1
  have hcf : m.cls = cf := by
    obtain ⟨_, _, c', _, _, _, -, -, hf', -, -, -, hown2, -⟩ := Cond.laysFinal_spec hlay
    have e1 : c' = cf := by have := hi.symm.trans hf'; simp at this; exact this.1.symm
    rw [h6 rfl] at hown2
    rw [← e1]; exact Option.some.inj (C.2.2.2.2.1.symm.trans hown2)
  have h10 := u_fits hfc hkC hkind (Or.inr hlay) hi h7 (hpv σ base).1 (hpv σ base).2
  refine W.putFinK C.1 C.2.1 C.2.2.2.2.1 (hts _ h4) hi hst hcf (C.2.2.2.2.2.2.2.1.trans hin) (by rw [q2]; exact h10) q1 q3 (by rw [hsl]; exact k2_hasslot (q4 k h2)) rfl rfl hdg fun H' e1 e2 e3 => ?_
  rw [hsl] at e1 ⊢
  refine kk p lc e R s m args below meth c D Y σ base H' _ cells slots ls Z C (pwd_set hP e2 e3 ?_) (hS.put e2 e3 (Nat.le_add_right _ _)) hL hc hs fin
  simp only [pat, h1]
  exact t_OB.to (V := updV (vp_V (fs.map (pv σ base))) k (pv σ base v)) ⟨_, e1, q2, q3, t_set q4 hap h2 _⟩ (fun j _ => by rw [vp_updV_set (by simpa using hl), List.map_set])
theorem pw_alen {i n : Nat} {f : Nat → Int32} (v : Int32) (hdg : decode (mcode M) pc = .ok (.arraylength, 1)) (he : h[i]? = some (.inl (.int, n, .inl f))) (hv : Int32.ofNat n = v) (kk : PW Γ M (pc + 1) l (.int v :: st) h bc bs Q) : PW Γ M pc l (.ref i :: st) h bc bs Q := by
  intro p lc e R s m args below meth c D Y σ base H locs cells slots ls Z C hP hS hL hc hs fin
  have hP1 : va_P D vwCl [(base + i, .inl (Y .int, n, .inl f))] H := fun k q hk => by
    cases k with
    | zero => cases hk; exact hP.2 i _ he
    | succ k => simp at hk
  exact va_alen (D := D) (cl := vwCl) C.1 C.2.1 C.2.2.2.2.2.2.2.2.2.2.2.1 hP1 0 0 rfl rfl hv hdg (kk p lc e R s m args below meth c D Y σ base H locs cells slots ls Z C hP hS hL hc hs fin)
theorem pw_iast {i n : Nat} {f : Nat → Int32} {x y : Int32} (hdg : decode (mcode M) pc = .ok (.iastore, 1)) (he : h[i]? = some (.inl (.int, n, .inl f))) (hin : vp_in x n) (kk : PW Γ M (pc + 1) l st (h.set i (.inl (.int, n, .inl (upd f x.toNatClampNeg y)))) bc bs Q) : PW Γ M pc l (.int y :: .int x :: .ref i :: st) h bc bs Q := by
  intro p lc e R s m args below meth c D Y σ base H locs cells slots ls Z C hP hS hL hc hs fin
  refine W.iast C.1 C.2.1 (hP.2 i _ he) ((C.2.2.2.2.2.2.2.2.2.2.2.1.2 0 _ rfl).1 n (fun j => .int (f j))) (fun q => by cases q) (by show ¬ (x < 0 ∨ (arrV _ _ _).slots.size ≤ _); rw [arrV_size]; exact hin) rfl rfl hdg fun H1 e z oq => ?_
  refine kk p lc _ R s m args below meth c D Y σ base H1 _ cells slots ls Z C (pwd_set hP z oq ?_) (hS.put z oq (Nat.le_add_right _ _)) hL hc hs fin
  show H1[base + i]? = some (vp_cell _ _)
  rw [e]
  rw [vp_cell_i, vp_cell_i, arrV_store]
  congr 2
  funext q
  by_cases hq : q = x.toNatClampNeg
  · subst hq
    simp [updV, upd]
  · simp [updV, upd, hq]
end
end
section
/-! making cells, and calls -/
section
variable {Γ : Nat × (Nat → Int32)} {M : MD} {pc : Nat} {l st : List Value} {h : PH} {bc bs : Nat} {Q : Option Value → PH → Prop}
theorem pw_newi {N : Nat} {x : Int32} (hdg : decode (mcode M) pc = .ok (.newarray .int, 2)) (hw : Cond.arrayClass .int ∈ lw_good) (hn : ¬ x < 0) (hN : x.toNatClampNeg = N) (hb : N * 4 ≤ 536870912) (kk : PW Γ M (pc + 2) l (.ref h.length :: st) (h ++ [.inl (.int, N, .inl (fun _ => 0))]) bc bs Q) : PW Γ M pc l (.int x :: st) h (bc + 1) (bs + N) Q := by
  intro p lc e R s m args below meth c D Y σ base H locs cells slots ls Z C hP hS hL hc hs fin
  refine va_newaK C.1 C.2.1 (atype := .int) (C.2.2.2.2.2.1 _ hw) rfl hdg rfl hn hN hb (by omega) (by omega) hP.1 fun H1 cA e1 z1 o1 hAr hNm => ?_
  have hcA : cA = Y .int := Option.some.inj (hNm.symm.trans (C.2.2.2.2.2.2.2.2.2.2.2.1.2 0 _ rfl).2)
  subst hcA
  refine kk p lc e R s m args below meth c D Y σ base H1 locs (cells + 1) (slots + N) ls Z C (pwd_push hP (by rw [z1, hP.1]) (fun q hq => o1 q (by rw [← hP.1]; exact hq)) e1) ⟨Nat.le_trans hS.1 (by rw [z1, hP.1]; omega), fun q g1 g2 => (o1 q (by rw [← hP.1]; exact Nat.lt_of_lt_of_le g1 hS.1)).trans (hS.2.1 q g1 g2), hS.2.2⟩ hL (by omega) (by omega) ?_
  intro r h' H' locs' cells' slots' ls' pc' a1 a2 a3 a4 a5 a6
  exact fin r h' H' locs' cells' slots' ls' pc' a1 a2 a3 (by omega) (by omega) a6
/-- own's pool entry idx is class ci, of N slots, which begins with the values fs -/
def pcl (own : String) (idx ci N : Nat) (fs : List Value) : Prop :=
  ∃ (C : String) (T : u_T) (ty : Nat → FieldType), vwCl[ci]? = some (C, T, N) ∧ (∀ w ∈ u_ws C T N, w ∈ lw_good) ∧ Cond.classLink own idx C ∈ lw_good ∧ Cond.instantiable C N ∈ lw_good ∧ Cond.initialized C ∈ lw_good ∧ (∀ k, k < N → parseFieldDescriptor (T k).2.2.1 = some (ty k)) ∧ ∀ σ base j, j < N → defaultValue (ty j) = vp_V (fs.map (pv σ base)) j
theorem pw_new {idx ci N : Nat} {fs : List Value} (hdg : decode (mcode M) pc = .ok (.new idx, 3)) (hf : pcl M.1.cls idx ci N fs) (kk : PW Γ M (pc + 3) l (.ref h.length :: st) (h ++ [.inr (ci, fs)]) bc bs Q) : PW Γ M pc l st h (bc + 1) (bs + N) Q := by
  intro p lc e R s m args below meth c D Y σ base H locs cells slots ls Z C hP hS hL hc hs fin
  obtain ⟨Cn, T, ty, h1, h2, h3, h4, h5, h6, h7⟩ := hf
  have hts := C.2.2.2.2.2.1
  have hKn := C.2.2.2.2.2.2.2.2.2.2.2.1.1 ci _ h1
  refine W.newcK C.1 C.2.1 C.2.2.2.2.1 (hts _ h3) (hts _ h4) (hts _ h5) rfl hdg (by omega) (by omega) hKn.2.1 hP.1 fun H1 kC hkC e1 z1 o1 => ?_
  refine kk p lc e R s m args below meth c D Y σ base H1 locs (cells + 1) (slots + N) ls Z C (pwd_push hP (by rw [z1, hP.1]) (fun q hq => o1 q (by rw [← hP.1]; exact hq)) ?_) ⟨Nat.le_trans hS.1 (by rw [z1, hP.1]; omega), fun q g1 g2 => (o1 q (by rw [← hP.1]; exact Nat.lt_of_lt_of_le g1 hS.1)).trans (hS.2.1 q g1 g2), hS.2.2⟩ hL (by omega) (by omega) ?_
  · simp only [pat, h1]
    exact (u_born ty hts h2 hKn hkC e1 h6).to (h7 σ base)
  · intro r h' H' locs' cells' slots' ls' pc' a1 a2 a3 a4 a5 a6
    exact fin r h' H' locs' cells' slots' ls' pc' a1 a2 a3 (by omega) (by omega) a6
theorem pw_objI {idx i : Nat} (hdg : decode (mcode M) pc = .ok (.invokespecial idx, 3)) (hl : Cond.methodLink M.1.cls idx Lib.objectInit ∈ lw_good) (hi : Cond.instanceMethod Lib.objectInit ∈ lw_good) (hc0 : Cond.code Lib.objectInit ⟨#[0xb1]⟩ 1 none ∈ lw_good) (hf : 1 ≤ mfr M) (ho : (st.map fun v => v.category).sum + 12 ≤ mlo M) (kk : PW Γ M (pc + 3) l st h bc bs Q) : PW Γ M pc l (.ref i :: st) h bc bs Q := by
  intro p lc e R s m args below meth c D Y σ base H locs cells slots ls Z C hP hS hL hc hs fin
  have hts := C.2.2.2.2.2.1
  refine W.objInit C.1 C.2.1 C.2.2.2.2.1 (hts _ hl) (hts _ hi) (hts _ hc0) rfl (hL.1.trans C.2.2.2.1.symm) rfl hdg (Nat.le_trans hf C.2.2.2.2.2.2.2.2.1) ?_ (kk p lc e R s m args below meth c D Y σ base H locs cells slots ls Z C hP hS hL hc hs fin)
  have h9 : ((st.map (pv σ base)).map fun v => v.category).sum = (st.map fun v => v.category).sum := by
    rw [List.map_map]
    congr 1
    exact List.map_congr_left fun v _ => pv_cat σ base v
  have h8 := C.2.2.2.2.2.2.2.2.2.1
  show 2 * 0 + ((st.map (pv σ base)).map fun v => v.category).sum + 12 ≤ R.locals
  omega
theorem pst_cat (σ : Nat → Nat) (base : Nat) (st : List Value) : ((st.map (pv σ base)).map fun v => v.category).sum = (st.map fun v => v.category).sum := by
  rw [List.map_map]
  congr 1
  exact List.map_congr_left fun v _ => pv_cat σ base v
theorem pblind {D : va_G} {Y : FieldType → ClassId} {σ : Nat → Nat} {base : Nat} {as : List Value} : FrameBlind (va_Pc (as.map (pv σ base)) (fun U => pwd D Y σ base h U.heap ∧ penv Γ U D Y σ base)) := by
  intro a U g mk q
  obtain ⟨q0, q1, q2⟩ := q
  exact ⟨q0, q1, penv_vm (s := U) (U := U.calling g mk a) rfl rfl q2⟩
/-- behind a call -/
theorem pw_run {mc ms : Nat} {Q' : Option Value → PH → Prop} {stk : List Value} (hb : mc ≤ bc) (hb2 : ms ≤ bs)
    (run : ∀ (p : Program) (lc : LC) (e : Env) (R : Room) (s : State) (m : MethodId) (args : Array Value) (below : List Frame) (meth : Method) (c : Code) (D : va_G) (Y : FieldType → ClassId) (σ : Nat → Nat) (base : Nat) (H : Heap) (locs : List Loc) (cells slots : Nat) (ls : Array Slot), pcx Γ M p R s m args meth c D Y σ base → pwd D Y σ base h H → va_S (pA base) s.heap H locs → plv σ base ls (mxl M) l → cells + bc ≤ R.cells → slots + bs ≤ R.slots →
      va_Run p lc.1 e R s m args below meth c H locs cells slots mc ms (F0 m pc ls (stk.map (pv σ base))) (st.map (pv σ base)) (fun st oc t => (∃ (r : Option Value) (h' : PH), Q' r h' ∧ oc = .returned (r.map (pv σ base)) ∧ pwd D Y σ base h' t.heap) ∧ va_F (pA base) st t) (pA base))
    (kk : ∀ (r : Option Value) (h' : PH), Q' r h' → PW Γ M (pc + 3) l (r.toList ++ st) h' (bc - mc) (bs - ms) Q) : PW Γ M pc l stk h bc bs Q := by
  intro p lc e R s m args below meth c D Y σ base H locs cells slots ls Z C hP hS hL hc hs fin
  intro T hT X
  obtain ⟨v, st₀, t, T', L, h0, X', hLo, e1, e2, ⟨⟨r, h', hQ, hv, hP'⟩, hz, hk⟩, stp⟩ := run p lc e R s m args below meth c D Y σ base H locs cells slots ls C hP hS hL hc hs T hT X
  cases hv
  rw [h0] at hz hk
  have hS' : va_S (pA base) s.heap T'.heap (locs ++ L) := ⟨Nat.le_trans hS.1 (by rw [e1]; exact hz), fun q g1 g2 => by rw [e1, hk q (Nat.lt_of_lt_of_le g1 hS.1) g2]; exact hS.2.1 q g1 g2, fun q hq => by
    rcases List.mem_append.mp hq with g | g
    · exact hS.2.2 q g
    · exact hLo q g⟩
  have key := kk r h' hQ p lc e R s m args below meth c D Y σ base T'.heap (locs ++ L) (cells + mc) (slots + ms) ls Z C (by rw [e1]; exact hP') hS' hL (by omega) (by omega) (fun r h' H' locs' cells' slots' ls' pc' a1 a2 a3 a4 a5 a6 => fin r h' H' locs' cells' slots' ls' pc' a1 a2 a3 (by omega) (by omega) a6)
  obtain ⟨t2, a1, b1⟩ := key T' rfl X'
  refine ⟨t2, stp t2 ?_, b1⟩
  have h9 : (r.toList ++ st).map (pv σ base) = (r.map (pv σ base)).toList ++ st.map (pv σ base) := by cases r <;> rfl
  rw [h9] at a1
  exact a1
def pmB (own : String) (M' : MD) (n : Nat) : Prop := Cond.initialized M'.1.cls ∈ lw_good ∧ Cond.code M'.1 (mcode M') (mxl M') (mret M') ∈ lw_good ∧ (M'.1.cls ≠ "java/lang/invoke/MethodHandle" ∧ M'.1.cls ≠ "java/lang/invoke/VarHandle" ∧ (parseMethodDescriptor M'.1.desc).map (fun d => d.parameters.length) = some n)
def pmV (own : String) (idx : Nat) (M' : MD) (n : Nat) : Prop := pmB own M' n ∧ Cond.methodLink own idx M'.1 ∈ lw_good ∧ Cond.instanceMethod M'.1 ∈ lw_good ∧ Cond.selects M'.1.cls M'.1 M'.1 ∈ lw_good
def pmS (own : String) (idx : Nat) (M' : MD) (n : Nat) : Prop := pmB own M' n ∧ Cond.methodLink own idx M'.1 ∈ lw_good ∧ Cond.static M'.1 ∈ lw_good
def pmI (own : String) (idx : Nat) (M' : MD) (n : Nat) : Prop := pmB own M' n ∧ Cond.methodLink own idx M'.1 ∈ lw_good ∧ Cond.instanceMethod M'.1 ∈ lw_good ∧ M'.1.name = "<init>" ∧ mret M' = none
def pmN (own : String) (idx : Nat) (M' : MD) (n : Nat) : Prop := pmB own M' n ∧ Cond.methodLinkNest own idx M'.1 "ChainChoice" ∈ pnest ∧ Cond.instanceMethod M'.1 ∈ lw_good ∧ M'.1.name = "<init>" ∧ mret M' = none
theorem pcallb {own : String} {M' : MD} {n idx mc ms : Nat} {R : Room} {s : State} {args : Array Value} (hts : ∀ w ∈ lw_good, w.before args s = true) (hm : pmB own M' n) (hl : Cond.methodLink own idx M'.1 ∈ lw_good) (hR : mfr M' + 1 ≤ R.frames ∧ 8 + (mxl M' + 11) + mlo M' ≤ R.locals) : CallB R s args own idx M'.1 (mcode M') (mxl M') (mret M') (pws M') { frames := mfr M', cells := mc, slots := ms, locals := mlo M' } mc ms n :=
  callB_of n hts (pws_good hm.2.1) rfl rfl rfl (hts _ hm.1) (hts _ hl) hm.2.2 hR
theorem pw_callV {M' : MD} {n idx b ci mc ms : Nat} {As fs : List Value} {Q' : Option Value → PH → Prop} (hdg : decode (mcode M) pc = .ok (.invokevirtual idx, 3)) (hm : pmV M.1.cls idx M' n) (hn : As.length = n) (hci : (vwCl[ci]?).map (fun q => q.1) = some M'.1.cls) (he : h[b]? = some (.inr (ci, fs))) (hR : mfr M' + 1 ≤ mfr M ∧ 8 + (mxl M' + 11) + mlo M' ≤ mlo M) (hst : (st.map fun v => v.category).sum ≤ 8) (hb : mc ≤ bc ∧ ms ≤ bs)
    (hp : PM Γ M' (.ref b :: As) h mc ms Q') (kk : ∀ (r : Option Value) (h' : PH), Q' r h' → PW Γ M (pc + 3) l (r.toList ++ st) h' (bc - mc) (bs - ms) Q) : PW Γ M pc l (As.reverse ++ .ref b :: st) h bc bs Q := by
  refine pw_run hb.1 hb.2 ?_ kk
  intro p lc e R s m args below meth c D Y σ base H locs cells slots ls C hP hS hL hc hs
  have hts := C.2.2.2.2.2.1
  have hRf := C.2.2.2.2.2.2.2.2.1
  have hRl := C.2.2.2.2.2.2.2.2.2.1
  have hK := C.2.2.2.2.2.2.2.2.2.2.2.1
  have hx := hP.2 b _ he
  cases hq : vwCl[ci]? with
  | none => rw [hq] at hci; cases hci
  | some q =>
    rw [hq] at hci
    have hc0 : q.1 = M'.1.cls := Option.some.inj hci
    simp only [pat, hq] at hx
    obtain ⟨cell, g1, g2, g3, -⟩ := hx
    refine va_runV (As := As.map (pv σ base)) (C := M'.1.cls) (b := base + b) ⟨C.1, C.2.1, C.2.2.2.1, C.2.2.2.2.1, hts⟩ (hp lc D Y σ base) ⟨pcallb hts hm.1 hm.2.1 ⟨by omega, by omega⟩, hts _ hm.2.2.1, hts _ hm.2.2.2⟩ ⟨pblind, ⟨cell, g1, by rw [g3]; rfl, by rw [← hc0, g2]; exact (hK.1 ci q hq).2.1⟩, fun U hU hW => ⟨by simp [pv], by rw [hU]; exact hP, penv_moved hW (by rw [hU]; exact hS) C.2.2.2.2.2.2.2.2.2.2⟩⟩ rfl (by simpa using hn) hL.1 (by simp [pv]) ?_ hdg ⟨by omega, by omega⟩
    have h9 := pst_cat σ base st
    show 2 * 0 + ((st.map (pv σ base)).map fun v => v.category).sum ≤ 8
    omega
theorem pw_callS {M' : MD} {n idx mc ms : Nat} {As : List Value} {Q' : Option Value → PH → Prop} (hdg : decode (mcode M) pc = .ok (.invokestatic idx, 3)) (hm : pmS M.1.cls idx M' n) (hn : As.length = n) (hR : mfr M' + 1 ≤ mfr M ∧ 8 + (mxl M' + 11) + mlo M' ≤ mlo M) (hst : (st.map fun v => v.category).sum ≤ 8) (hb : mc ≤ bc ∧ ms ≤ bs)
    (hp : PM Γ M' As h mc ms Q') (kk : ∀ (r : Option Value) (h' : PH), Q' r h' → PW Γ M (pc + 3) l (r.toList ++ st) h' (bc - mc) (bs - ms) Q) : PW Γ M pc l (As.reverse ++ st) h bc bs Q := by
  refine pw_run hb.1 hb.2 ?_ kk
  intro p lc e R s m args below meth c D Y σ base H locs cells slots ls C hP hS hL hc hs
  have hts := C.2.2.2.2.2.1
  have hRf := C.2.2.2.2.2.2.2.2.1
  have hRl := C.2.2.2.2.2.2.2.2.2.1
  refine va_runS (As := As.map (pv σ base)) ⟨C.1, C.2.1, C.2.2.2.1, C.2.2.2.2.1, hts⟩ (hp lc D Y σ base) ⟨pcallb hts hm.1 hm.2.1 ⟨by omega, by omega⟩, hts _ hm.2.2⟩ ⟨pblind, fun U hU hW => ⟨rfl, by rw [hU]; exact hP, penv_moved hW (by rw [hU]; exact hS) C.2.2.2.2.2.2.2.2.2.2⟩⟩ rfl (by simpa using hn) hL.1 (by simp) ?_ hdg ⟨by omega, by omega⟩
  have h9 := pst_cat σ base st
  show 2 * 0 + ((st.map (pv σ base)).map fun v => v.category).sum ≤ 8
  omega
theorem pw_callI {M' : MD} {n idx b mc ms : Nat} {As : List Value} {Q' : Option Value → PH → Prop} (hdg : decode (mcode M) pc = .ok (.invokespecial idx, 3)) (hm : pmI M.1.cls idx M' n) (hn : As.length = n) (hR : mfr M' + 1 ≤ mfr M ∧ 8 + (mxl M' + 11) + mlo M' ≤ mlo M) (hst : (st.map fun v => v.category).sum ≤ 8) (hb : mc ≤ bc ∧ ms ≤ bs)
    (hp : PM Γ M' (.ref b :: As) h mc ms Q') (kk : ∀ (r : Option Value) (h' : PH), Q' r h' → PW Γ M (pc + 3) l (r.toList ++ st) h' (bc - mc) (bs - ms) Q) : PW Γ M pc l (As.reverse ++ .ref b :: st) h bc bs Q := by
  refine pw_run hb.1 hb.2 ?_ kk
  intro p lc e R s m args below meth c D Y σ base H locs cells slots ls C hP hS hL hc hs
  have hts := C.2.2.2.2.2.1
  have hRf := C.2.2.2.2.2.2.2.2.1
  have hRl := C.2.2.2.2.2.2.2.2.2.1
  have hcb := pcallb (mc := mc) (ms := ms) hts hm.1 hm.2.1 (R := R) ⟨by omega, by omega⟩
  rw [hm.2.2.2.2] at hcb
  refine va_runI (As := As.map (pv σ base)) (b := base + b) ⟨C.1, C.2.1, C.2.2.2.1, C.2.2.2.2.1, hts⟩ (hp lc D Y σ base) ⟨hcb, hm.2.2.2.1, hts _ hm.2.2.1⟩ ⟨pblind, fun U hU hW => ⟨by simp [pv], by rw [hU]; exact hP, penv_moved hW (by rw [hU]; exact hS) C.2.2.2.2.2.2.2.2.2.2⟩⟩ rfl (by simpa using hn) hL.1 (by simp [pv]) ?_ hdg ⟨by omega, by omega⟩
  have h9 := pst_cat σ base st
  show 2 * 0 + ((st.map (pv σ base)).map fun v => v.category).sum ≤ 8
  omega
theorem pw_callN {M' : MD} {n idx b mc ms : Nat} {As : List Value} {Q' : Option Value → PH → Prop} (hdg : decode (mcode M) pc = .ok (.invokespecial idx, 3)) (hm : pmN M.1.cls idx M' n) (hn : As.length = n) (hR : mfr M' + 1 ≤ mfr M ∧ 8 + (mxl M' + 11) + mlo M' ≤ mlo M) (hst : (st.map fun v => v.category).sum ≤ 8) (hb : mc ≤ bc ∧ ms ≤ bs)
    (hp : PM Γ M' (.ref b :: As) h mc ms Q') (kk : ∀ (r : Option Value) (h' : PH), Q' r h' → PW Γ M (pc + 3) l (r.toList ++ st) h' (bc - mc) (bs - ms) Q) : PW Γ M pc l (As.reverse ++ .ref b :: st) h bc bs Q := by
  refine pw_run hb.1 hb.2 ?_ kk
  intro p lc e R s m args below meth c D Y σ base H locs cells slots ls C hP hS hL hc hs
  have hts := C.2.2.2.2.2.1
  have hRf := C.2.2.2.2.2.2.2.2.1
  have hRl := C.2.2.2.2.2.2.2.2.2.1
  have hcb : va_CN R s args M.1.cls idx M'.1 "ChainChoice" (mcode M') (mxl M') (mret M') (pws M') { frames := mfr M', cells := mc, slots := ms, locals := mlo M' } mc ms n :=
    va_cnB n hts (pws_good hm.1.2.1) rfl rfl rfl (C.2.2.2.2.2.2.2.2.2.2.2.2.1 _ hm.2.1) (hts _ hm.1.1) hm.1.2.2 ⟨by show mfr M' + 1 ≤ _; omega, by show _ + mlo M' ≤ _; omega⟩
  rw [hm.2.2.2.2] at hcb
  refine va_runIN (As := As.map (pv σ base)) (b := base + b) ⟨C.1, C.2.1, C.2.2.2.1, C.2.2.2.2.1, hts⟩ (hp lc D Y σ base) ⟨hcb, hm.2.2.2.1, hts _ hm.2.2.1⟩ ⟨pblind, fun U hU hW => ⟨by simp [pv], by rw [hU]; exact hP, penv_moved hW (by rw [hU]; exact hS) C.2.2.2.2.2.2.2.2.2.2⟩⟩ rfl (by simpa using hn) hL.1 (by simp [pv]) ?_ hdg ⟨by omega, by omega⟩
  have h9 := pst_cat σ base st
  show 2 * 0 + ((st.map (pv σ base)).map fun v => v.category).sum ≤ 8
  omega
end
end
section
theorem tb1 {w : Cond} (h : w ∈ tables_1_1) : w ∈ lw_tbl := List.mem_append_right _ (List.mem_append_left _ h)
theorem tb2 {w : Cond} (h : w ∈ tables_1_2) : w ∈ lw_tbl := List.mem_append_right _ (List.mem_append_right _ (List.mem_append_left _ h))
theorem tb4 {w : Cond} (h : w ∈ tables_1_4) : w ∈ lw_tbl := List.mem_append_right _ (List.mem_append_right _ (List.mem_append_right _ (List.mem_append_right _ (List.mem_append_left _ h))))
theorem tb5 {w : Cond} (h : w ∈ tables_1_5) : w ∈ lw_tbl := List.mem_append_right _ (List.mem_append_right _ (List.mem_append_right _ (List.mem_append_right _ (List.mem_append_right _ (List.mem_append_left _ h)))))
theorem i_X0 : ∀ w ∈ u_ws RX0 TX0 2, w ∈ lw_good := by
  intro w hw
  obtain ⟨k, hk, rfl⟩ := List.mem_map.mp hw
  have hk := List.mem_range.mp hk
  match k, hk with
  | 0, _ => exact lw_mem (tb1 (List.mem_of_getElem? (i := 88) rfl)) rfl
  | 1, _ => exact lw_mem (tb1 (List.mem_of_getElem? (i := 90) rfl)) rfl
  | k + 2, hk => omega
theorem i_X1 : ∀ w ∈ u_ws RX1 TX1 5, w ∈ lw_good := by
  intro w hw
  obtain ⟨k, hk, rfl⟩ := List.mem_map.mp hw
  have hk := List.mem_range.mp hk
  match k, hk with
  | 0, _ => exact lw_mem (tb1 (List.mem_of_getElem? (i := 53) rfl)) rfl
  | 1, _ => exact lw_mem (tb1 (List.mem_of_getElem? (i := 55) rfl)) rfl
  | 2, _ => exact lw_mem (tb1 (List.mem_of_getElem? (i := 57) rfl)) rfl
  | 3, _ => exact lw_mem (tb1 (List.mem_of_getElem? (i := 59) rfl)) rfl
  | 4, _ => exact lw_mem (tb1 (List.mem_of_getElem? (i := 61) rfl)) rfl
  | k + 5, hk => omega
theorem i_X2 : ∀ w ∈ u_ws RX2 TX2 1, w ∈ lw_good := by
  intro w hw
  obtain ⟨k, hk, rfl⟩ := List.mem_map.mp hw
  have hk := List.mem_range.mp hk
  match k, hk with
  | 0, _ => exact lw_mem (tb1 (List.mem_of_getElem? (i := 71) rfl)) rfl
  | k + 1, hk => omega
theorem i_X3 : ∀ w ∈ u_ws RX3 TX3 9, w ∈ lw_good := by
  intro w hw
  obtain ⟨k, hk, rfl⟩ := List.mem_map.mp hw
  have hk := List.mem_range.mp hk
  match k, hk with
  | 0, _ => exact lw_mem (tb1 (List.mem_of_getElem? (i := 155) rfl)) rfl
  | 1, _ => exact lw_mem (tb1 (List.mem_of_getElem? (i := 157) rfl)) rfl
  | 2, _ => exact lw_mem (tb1 (List.mem_of_getElem? (i := 159) rfl)) rfl
  | 3, _ => exact lw_mem (tb1 (List.mem_of_getElem? (i := 161) rfl)) rfl
  | 4, _ => exact lw_mem (tb1 (List.mem_of_getElem? (i := 163) rfl)) rfl
  | 5, _ => exact lw_mem (tb1 (List.mem_of_getElem? (i := 165) rfl)) rfl
  | 6, _ => exact lw_mem (tb1 (List.mem_of_getElem? (i := 167) rfl)) rfl
  | 7, _ => exact lw_mem (tb1 (List.mem_of_getElem? (i := 169) rfl)) rfl
  | 8, _ => exact lw_mem (tb1 (List.mem_of_getElem? (i := 171) rfl)) rfl
  | k + 9, hk => omega
theorem i_X4 : ∀ w ∈ u_ws RX4 TX4 6, w ∈ lw_good := by
  intro w hw
  obtain ⟨k, hk, rfl⟩ := List.mem_map.mp hw
  have hk := List.mem_range.mp hk
  match k, hk with
  | 0, _ => exact lw_mem (tb1 (List.mem_of_getElem? (i := 133) rfl)) rfl
  | 1, _ => exact lw_mem (tb1 (List.mem_of_getElem? (i := 135) rfl)) rfl
  | 2, _ => exact lw_mem (tb1 (List.mem_of_getElem? (i := 137) rfl)) rfl
  | 3, _ => exact lw_mem (tb1 (List.mem_of_getElem? (i := 139) rfl)) rfl
  | 4, _ => exact lw_mem (tb1 (List.mem_of_getElem? (i := 141) rfl)) rfl
  | 5, _ => exact lw_mem (tb1 (List.mem_of_getElem? (i := 143) rfl)) rfl
  | k + 6, hk => omega
theorem i_X5 : ∀ w ∈ u_ws RX5 TX5 6, w ∈ lw_good := by
  intro w hw
  obtain ⟨k, hk, rfl⟩ := List.mem_map.mp hw
  have hk := List.mem_range.mp hk
  match k, hk with
  | 0, _ => exact lw_mem (tb1 (List.mem_of_getElem? (i := 194) rfl)) rfl
  | 1, _ => exact lw_mem (tb1 (List.mem_of_getElem? (i := 196) rfl)) rfl
  | 2, _ => exact lw_mem (tb1 (List.mem_of_getElem? (i := 198) rfl)) rfl
  | 3, _ => exact lw_mem (tb1 (List.mem_of_getElem? (i := 200) rfl)) rfl
  | 4, _ => exact lw_mem (tb1 (List.mem_of_getElem? (i := 202) rfl)) rfl
  | 5, _ => exact lw_mem (tb1 (List.mem_of_getElem? (i := 204) rfl)) rfl
  | k + 6, hk => omega
theorem i_X6 : ∀ w ∈ u_ws RX6 TX6 2, w ∈ lw_good := by
  intro w hw
  obtain ⟨k, hk, rfl⟩ := List.mem_map.mp hw
  have hk := List.mem_range.mp hk
  match k, hk with
  | 0, _ => exact lw_mem (tb1 (List.mem_of_getElem? (i := 36) rfl)) rfl
  | 1, _ => exact lw_mem (tb1 (List.mem_of_getElem? (i := 38) rfl)) rfl
  | k + 2, hk => omega
theorem i_X7 : ∀ w ∈ u_ws RX7 TX7 1, w ∈ lw_good := by
  intro w hw
  obtain ⟨k, hk, rfl⟩ := List.mem_map.mp hw
  have hk := List.mem_range.mp hk
  match k, hk with
  | 0, _ => exact lw_mem (tb2 (List.mem_of_getElem? (i := 14) rfl)) rfl
  | k + 1, hk => omega
theorem i_X8 : ∀ w ∈ u_ws RX8 TX8 7, w ∈ lw_good := by
  intro w hw
  obtain ⟨k, hk, rfl⟩ := List.mem_map.mp hw
  have hk := List.mem_range.mp hk
  match k, hk with
  | 0, _ => exact lw_mem (tb1 (List.mem_of_getElem? (i := 106) rfl)) rfl
  | 1, _ => exact lw_mem (tb1 (List.mem_of_getElem? (i := 108) rfl)) rfl
  | 2, _ => exact lw_mem (tb1 (List.mem_of_getElem? (i := 110) rfl)) rfl
  | 3, _ => exact lw_mem (tb1 (List.mem_of_getElem? (i := 112) rfl)) rfl
  | 4, _ => exact lw_mem (tb1 (List.mem_of_getElem? (i := 114) rfl)) rfl
  | 5, _ => exact lw_mem (tb1 (List.mem_of_getElem? (i := 116) rfl)) rfl
  | 6, _ => exact lw_mem (tb1 (List.mem_of_getElem? (i := 118) rfl)) rfl
  | k + 7, hk => omega
theorem i_X9 : ∀ w ∈ u_ws RX9 TX9 11, w ∈ lw_good := by
  intro w hw
  obtain ⟨k, hk, rfl⟩ := List.mem_map.mp hw
  have hk := List.mem_range.mp hk
  match k, hk with
  | 0, _ => exact lw_mem (tb1 (List.mem_of_getElem? (i := 224) rfl)) rfl
  | 1, _ => exact lw_mem (tb1 (List.mem_of_getElem? (i := 226) rfl)) rfl
  | 2, _ => exact lw_mem (tb1 (List.mem_of_getElem? (i := 228) rfl)) rfl
  | 3, _ => exact lw_mem (tb1 (List.mem_of_getElem? (i := 230) rfl)) rfl
  | 4, _ => exact lw_mem (tb1 (List.mem_of_getElem? (i := 232) rfl)) rfl
  | 5, _ => exact lw_mem (tb1 (List.mem_of_getElem? (i := 234) rfl)) rfl
  | 6, _ => exact lw_mem (tb1 (List.mem_of_getElem? (i := 236) rfl)) rfl
  | 7, _ => exact lw_mem (tb1 (List.mem_of_getElem? (i := 238) rfl)) rfl
  | 8, _ => exact lw_mem (tb2 (List.mem_of_getElem? (i := 0) rfl)) rfl
  | 9, _ => exact lw_mem (tb2 (List.mem_of_getElem? (i := 2) rfl)) rfl
  | 10, _ => exact lw_mem (tb2 (List.mem_of_getElem? (i := 4) rfl)) rfl
  | k + 11, hk => omega
theorem i_X10 : ∀ w ∈ u_ws RX10 TX10 14, w ∈ lw_good := by
  intro w hw
  obtain ⟨k, hk, rfl⟩ := List.mem_map.mp hw
  have hk := List.mem_range.mp hk
  match k, hk with
  | 0, _ => exact lw_mem (tb2 (List.mem_of_getElem? (i := 34) rfl)) rfl
  | 1, _ => exact lw_mem (tb2 (List.mem_of_getElem? (i := 36) rfl)) rfl
  | 2, _ => exact lw_mem (tb2 (List.mem_of_getElem? (i := 38) rfl)) rfl
  | 3, _ => exact lw_mem (tb2 (List.mem_of_getElem? (i := 40) rfl)) rfl
  | 4, _ => exact lw_mem (tb2 (List.mem_of_getElem? (i := 42) rfl)) rfl
  | 5, _ => exact lw_mem (tb2 (List.mem_of_getElem? (i := 44) rfl)) rfl
  | 6, _ => exact lw_mem (tb2 (List.mem_of_getElem? (i := 46) rfl)) rfl
  | 7, _ => exact lw_mem (tb2 (List.mem_of_getElem? (i := 48) rfl)) rfl
  | 8, _ => exact lw_mem (tb2 (List.mem_of_getElem? (i := 50) rfl)) rfl
  | 9, _ => exact lw_mem (tb2 (List.mem_of_getElem? (i := 52) rfl)) rfl
  | 10, _ => exact lw_mem (tb2 (List.mem_of_getElem? (i := 54) rfl)) rfl
  | 11, _ => exact lw_mem (tb2 (List.mem_of_getElem? (i := 56) rfl)) rfl
  | 12, _ => exact lw_mem (tb2 (List.mem_of_getElem? (i := 58) rfl)) rfl
  | 13, _ => exact lw_mem (tb2 (List.mem_of_getElem? (i := 60) rfl)) rfl
  | k + 14, hk => omega
theorem i_X11 : ∀ w ∈ u_ws RX11 TX11 35, w ∈ lw_good := by
  intro w hw
  obtain ⟨k, hk, rfl⟩ := List.mem_map.mp hw
  have hk := List.mem_range.mp hk
  match k, hk with
  | 0, _ => exact lw_mem (tb4 (List.mem_of_getElem? (i := 238) rfl)) rfl
  | 1, _ => exact lw_mem (tb5 (List.mem_of_getElem? (i := 0) rfl)) rfl
  | 2, _ => exact lw_mem (tb5 (List.mem_of_getElem? (i := 2) rfl)) rfl
  | 3, _ => exact lw_mem (tb5 (List.mem_of_getElem? (i := 4) rfl)) rfl
  | 4, _ => exact lw_mem (tb5 (List.mem_of_getElem? (i := 6) rfl)) rfl
  | 5, _ => exact lw_mem (tb5 (List.mem_of_getElem? (i := 8) rfl)) rfl
  | 6, _ => exact lw_mem (tb5 (List.mem_of_getElem? (i := 10) rfl)) rfl
  | 7, _ => exact lw_mem (tb5 (List.mem_of_getElem? (i := 12) rfl)) rfl
  | 8, _ => exact lw_mem (tb5 (List.mem_of_getElem? (i := 14) rfl)) rfl
  | 9, _ => exact lw_mem (tb5 (List.mem_of_getElem? (i := 16) rfl)) rfl
  | 10, _ => exact lw_mem (tb5 (List.mem_of_getElem? (i := 18) rfl)) rfl
  | 11, _ => exact lw_mem (tb5 (List.mem_of_getElem? (i := 20) rfl)) rfl
  | 12, _ => exact lw_mem (tb5 (List.mem_of_getElem? (i := 22) rfl)) rfl
  | 13, _ => exact lw_mem (tb5 (List.mem_of_getElem? (i := 24) rfl)) rfl
  | 14, _ => exact lw_mem (tb5 (List.mem_of_getElem? (i := 26) rfl)) rfl
  | 15, _ => exact lw_mem (tb5 (List.mem_of_getElem? (i := 28) rfl)) rfl
  | 16, _ => exact lw_mem (tb5 (List.mem_of_getElem? (i := 30) rfl)) rfl
  | 17, _ => exact lw_mem (tb5 (List.mem_of_getElem? (i := 32) rfl)) rfl
  | 18, _ => exact lw_mem (tb5 (List.mem_of_getElem? (i := 34) rfl)) rfl
  | 19, _ => exact lw_mem (tb5 (List.mem_of_getElem? (i := 36) rfl)) rfl
  | 20, _ => exact lw_mem (tb5 (List.mem_of_getElem? (i := 38) rfl)) rfl
  | 21, _ => exact lw_mem (tb5 (List.mem_of_getElem? (i := 40) rfl)) rfl
  | 22, _ => exact lw_mem (tb5 (List.mem_of_getElem? (i := 42) rfl)) rfl
  | 23, _ => exact lw_mem (tb5 (List.mem_of_getElem? (i := 44) rfl)) rfl
  | 24, _ => exact lw_mem (tb5 (List.mem_of_getElem? (i := 46) rfl)) rfl
  | 25, _ => exact lw_mem (tb5 (List.mem_of_getElem? (i := 48) rfl)) rfl
  | 26, _ => exact lw_mem (tb5 (List.mem_of_getElem? (i := 50) rfl)) rfl
  | 27, _ => exact lw_mem (tb5 (List.mem_of_getElem? (i := 52) rfl)) rfl
  | 28, _ => exact lw_mem (tb5 (List.mem_of_getElem? (i := 54) rfl)) rfl
  | 29, _ => exact lw_mem (tb5 (List.mem_of_getElem? (i := 56) rfl)) rfl
  | 30, _ => exact lw_mem (tb5 (List.mem_of_getElem? (i := 58) rfl)) rfl
  | 31, _ => exact lw_mem (tb5 (List.mem_of_getElem? (i := 60) rfl)) rfl
  | 32, _ => exact lw_mem (tb5 (List.mem_of_getElem? (i := 62) rfl)) rfl
  | 33, _ => exact lw_mem (tb5 (List.mem_of_getElem? (i := 64) rfl)) rfl
  | 34, _ => exact lw_mem (tb5 (List.mem_of_getElem? (i := 66) rfl)) rfl
  | k + 35, hk => omega
theorem fX6_13 : pfl RX6 13 6 0 true (.array .int) := ⟨_, _, _, tyX6, rfl, by decide, i_X6, lw_mem (tb1 (List.mem_of_getElem? (i := 34) rfl)) rfl, rfl, fun _ => rfl, by decide +kernel, tyX6_ok, nmX6⟩
theorem fX6_7 : pfl RX6 7 6 1 false (.int) := ⟨_, _, _, tyX6, rfl, by decide, i_X6, lw_mem (tb1 (List.mem_of_getElem? (i := 35) rfl)) rfl, rfl, fun _ => rfl, by decide +kernel, tyX6_ok, nmX6⟩
theorem fX1_9 : pfl RX1 9 1 0 true (.array .int) := ⟨_, _, _, tyX1, rfl, by decide, i_X1, lw_mem (tb1 (List.mem_of_getElem? (i := 48) rfl)) rfl, rfl, fun _ => rfl, by decide +kernel, tyX1_ok, nmX1⟩
theorem fX1_15 : pfl RX1 15 1 1 true (.array .int) := ⟨_, _, _, tyX1, rfl, by decide, i_X1, lw_mem (tb1 (List.mem_of_getElem? (i := 49) rfl)) rfl, rfl, fun _ => rfl, by decide +kernel, tyX1_ok, nmX1⟩
theorem fX1_18 : pfl RX1 18 1 2 false (.int) := ⟨_, _, _, tyX1, rfl, by decide, i_X1, lw_mem (tb1 (List.mem_of_getElem? (i := 50) rfl)) rfl, rfl, fun _ => rfl, by decide +kernel, tyX1_ok, nmX1⟩
theorem fX1_22 : pfl RX1 22 1 3 true (.array .int) := ⟨_, _, _, tyX1, rfl, by decide, i_X1, lw_mem (tb1 (List.mem_of_getElem? (i := 51) rfl)) rfl, rfl, fun _ => rfl, by decide +kernel, tyX1_ok, nmX1⟩
theorem fX1_25 : pfl RX1 25 1 4 false (.int) := ⟨_, _, _, tyX1, rfl, by decide, i_X1, lw_mem (tb1 (List.mem_of_getElem? (i := 52) rfl)) rfl, rfl, fun _ => rfl, by decide +kernel, tyX1_ok, nmX1⟩
theorem fX2_9 : pfl RX2 9 2 0 true (.array .int) := ⟨_, _, _, tyX2, rfl, by decide, i_X2, lw_mem (tb1 (List.mem_of_getElem? (i := 70) rfl)) rfl, rfl, fun _ => rfl, by decide +kernel, tyX2_ok, nmX2⟩
theorem fX0_7 : pfl RX0 7 0 0 false (.int) := ⟨_, _, _, tyX0, rfl, by decide, i_X0, lw_mem (tb1 (List.mem_of_getElem? (i := 86) rfl)) rfl, rfl, fun _ => rfl, by decide +kernel, tyX0_ok, nmX0⟩
theorem fX0_13 : pfl RX0 13 0 1 false (.int) := ⟨_, _, _, tyX0, rfl, by decide, i_X0, lw_mem (tb1 (List.mem_of_getElem? (i := 87) rfl)) rfl, rfl, fun _ => rfl, by decide +kernel, tyX0_ok, nmX0⟩
theorem fX8_9 : pfl RX8 9 8 0 true (.array .int) := ⟨_, _, _, tyX8, rfl, by decide, i_X8, lw_mem (tb1 (List.mem_of_getElem? (i := 99) rfl)) rfl, rfl, fun _ => rfl, by decide +kernel, tyX8_ok, nmX8⟩
theorem fX8_15 : pfl RX8 15 8 1 true (.array .int) := ⟨_, _, _, tyX8, rfl, by decide, i_X8, lw_mem (tb1 (List.mem_of_getElem? (i := 100) rfl)) rfl, rfl, fun _ => rfl, by decide +kernel, tyX8_ok, nmX8⟩
theorem fX8_18 : pfl RX8 18 8 2 true (.array .int) := ⟨_, _, _, tyX8, rfl, by decide, i_X8, lw_mem (tb1 (List.mem_of_getElem? (i := 101) rfl)) rfl, rfl, fun _ => rfl, by decide +kernel, tyX8_ok, nmX8⟩
theorem fX8_21 : pfl RX8 21 8 3 true (.array .int) := ⟨_, _, _, tyX8, rfl, by decide, i_X8, lw_mem (tb1 (List.mem_of_getElem? (i := 102) rfl)) rfl, rfl, fun _ => rfl, by decide +kernel, tyX8_ok, nmX8⟩
theorem fX8_24 : pfl RX8 24 8 4 false (.int) := ⟨_, _, _, tyX8, rfl, by decide, i_X8, lw_mem (tb1 (List.mem_of_getElem? (i := 103) rfl)) rfl, rfl, fun _ => rfl, by decide +kernel, tyX8_ok, nmX8⟩
theorem fX8_28 : pfl RX8 28 8 5 false (.int) := ⟨_, _, _, tyX8, rfl, by decide, i_X8, lw_mem (tb1 (List.mem_of_getElem? (i := 104) rfl)) rfl, rfl, fun _ => rfl, by decide +kernel, tyX8_ok, nmX8⟩
theorem fX8_31 : pfl RX8 31 8 6 false (.int) := ⟨_, _, _, tyX8, rfl, by decide, i_X8, lw_mem (tb1 (List.mem_of_getElem? (i := 105) rfl)) rfl, rfl, fun _ => rfl, by decide +kernel, tyX8_ok, nmX8⟩
theorem fX4_9 : pfl RX4 9 4 0 true (.array .int) := ⟨_, _, _, tyX4, rfl, by decide, i_X4, lw_mem (tb1 (List.mem_of_getElem? (i := 127) rfl)) rfl, rfl, fun _ => rfl, by decide +kernel, tyX4_ok, nmX4⟩
theorem fX4_15 : pfl RX4 15 4 1 true (.array .int) := ⟨_, _, _, tyX4, rfl, by decide, i_X4, lw_mem (tb1 (List.mem_of_getElem? (i := 128) rfl)) rfl, rfl, fun _ => rfl, by decide +kernel, tyX4_ok, nmX4⟩
theorem fX4_18 : pfl RX4 18 4 2 true (.array .int) := ⟨_, _, _, tyX4, rfl, by decide, i_X4, lw_mem (tb1 (List.mem_of_getElem? (i := 129) rfl)) rfl, rfl, fun _ => rfl, by decide +kernel, tyX4_ok, nmX4⟩
theorem fX4_21 : pfl RX4 21 4 3 true (.array .int) := ⟨_, _, _, tyX4, rfl, by decide, i_X4, lw_mem (tb1 (List.mem_of_getElem? (i := 130) rfl)) rfl, rfl, fun _ => rfl, by decide +kernel, tyX4_ok, nmX4⟩
theorem fX4_24 : pfl RX4 24 4 4 true (.array .int) := ⟨_, _, _, tyX4, rfl, by decide, i_X4, lw_mem (tb1 (List.mem_of_getElem? (i := 131) rfl)) rfl, rfl, fun _ => rfl, by decide +kernel, tyX4_ok, nmX4⟩
theorem fX4_27 : pfl RX4 27 4 5 false (.int) := ⟨_, _, _, tyX4, rfl, by decide, i_X4, lw_mem (tb1 (List.mem_of_getElem? (i := 132) rfl)) rfl, rfl, fun _ => rfl, by decide +kernel, tyX4_ok, nmX4⟩
theorem fX3_9 : pfl RX3 9 3 0 true (.array .int) := ⟨_, _, _, tyX3, rfl, by decide, i_X3, lw_mem (tb1 (List.mem_of_getElem? (i := 146) rfl)) rfl, rfl, fun _ => rfl, by decide +kernel, tyX3_ok, nmX3⟩
theorem fX3_15 : pfl RX3 15 3 1 true (.array .int) := ⟨_, _, _, tyX3, rfl, by decide, i_X3, lw_mem (tb1 (List.mem_of_getElem? (i := 147) rfl)) rfl, rfl, fun _ => rfl, by decide +kernel, tyX3_ok, nmX3⟩
theorem fX3_18 : pfl RX3 18 3 2 true (.array .int) := ⟨_, _, _, tyX3, rfl, by decide, i_X3, lw_mem (tb1 (List.mem_of_getElem? (i := 148) rfl)) rfl, rfl, fun _ => rfl, by decide +kernel, tyX3_ok, nmX3⟩
theorem fX3_21 : pfl RX3 21 3 3 true (.array .int) := ⟨_, _, _, tyX3, rfl, by decide, i_X3, lw_mem (tb1 (List.mem_of_getElem? (i := 149) rfl)) rfl, rfl, fun _ => rfl, by decide +kernel, tyX3_ok, nmX3⟩
theorem fX3_27 : pfl RX3 27 3 4 true (.object "ChainChoice$BitWriter") := ⟨_, _, _, tyX3, rfl, by decide, i_X3, lw_mem (tb1 (List.mem_of_getElem? (i := 150) rfl)) rfl, rfl, fun _ => rfl, by decide +kernel, tyX3_ok, nmX3⟩
theorem fX3_34 : pfl RX3 34 3 5 true (.object "ChainChoice$Tree") := ⟨_, _, _, tyX3, rfl, by decide, i_X3, lw_mem (tb1 (List.mem_of_getElem? (i := 151) rfl)) rfl, rfl, fun _ => rfl, by decide +kernel, tyX3_ok, nmX3⟩
theorem fX3_41 : pfl RX3 41 3 6 true (.object "ChainChoice$PrefixCode") := ⟨_, _, _, tyX3, rfl, by decide, i_X3, lw_mem (tb1 (List.mem_of_getElem? (i := 152) rfl)) rfl, rfl, fun _ => rfl, by decide +kernel, tyX3_ok, nmX3⟩
theorem fX3_45 : pfl RX3 45 3 7 false (.int) := ⟨_, _, _, tyX3, rfl, by decide, i_X3, lw_mem (tb1 (List.mem_of_getElem? (i := 153) rfl)) rfl, rfl, fun _ => rfl, by decide +kernel, tyX3_ok, nmX3⟩
theorem fX3_49 : pfl RX3 49 3 8 false (.int) := ⟨_, _, _, tyX3, rfl, by decide, i_X3, lw_mem (tb1 (List.mem_of_getElem? (i := 154) rfl)) rfl, rfl, fun _ => rfl, by decide +kernel, tyX3_ok, nmX3⟩
theorem fX5_14 : pfl RX5 14 5 0 false (.object "ChainChoice$Row") := ⟨_, _, _, tyX5, rfl, by decide, i_X5, lw_mem (tb1 (List.mem_of_getElem? (i := 188) rfl)) rfl, rfl, fun _ => rfl, by decide +kernel, tyX5_ok, nmX5⟩
theorem fX5_20 : pfl RX5 20 5 1 false (.int) := ⟨_, _, _, tyX5, rfl, by decide, i_X5, lw_mem (tb1 (List.mem_of_getElem? (i := 189) rfl)) rfl, rfl, fun _ => rfl, by decide +kernel, tyX5_ok, nmX5⟩
theorem fX5_24 : pfl RX5 24 5 2 false (.int) := ⟨_, _, _, tyX5, rfl, by decide, i_X5, lw_mem (tb1 (List.mem_of_getElem? (i := 190) rfl)) rfl, rfl, fun _ => rfl, by decide +kernel, tyX5_ok, nmX5⟩
theorem fX5_27 : pfl RX5 27 5 3 false (.int) := ⟨_, _, _, tyX5, rfl, by decide, i_X5, lw_mem (tb1 (List.mem_of_getElem? (i := 191) rfl)) rfl, rfl, fun _ => rfl, by decide +kernel, tyX5_ok, nmX5⟩
theorem fX5_30 : pfl RX5 30 5 4 false (.int) := ⟨_, _, _, tyX5, rfl, by decide, i_X5, lw_mem (tb1 (List.mem_of_getElem? (i := 192) rfl)) rfl, rfl, fun _ => rfl, by decide +kernel, tyX5_ok, nmX5⟩
theorem fX5_33 : pfl RX5 33 5 5 false (.int) := ⟨_, _, _, tyX5, rfl, by decide, i_X5, lw_mem (tb1 (List.mem_of_getElem? (i := 193) rfl)) rfl, rfl, fun _ => rfl, by decide +kernel, tyX5_ok, nmX5⟩
theorem fX9_12 : pfl RX9 12 9 0 true (.object "ChainChoice$Reader") := ⟨_, _, _, tyX9, rfl, by decide, i_X9, lw_mem (tb1 (List.mem_of_getElem? (i := 213) rfl)) rfl, rfl, fun _ => rfl, by decide +kernel, tyX9_ok, nmX9⟩
theorem fX9_18 : pfl RX9 18 9 1 true (.array .int) := ⟨_, _, _, tyX9, rfl, by decide, i_X9, lw_mem (tb1 (List.mem_of_getElem? (i := 214) rfl)) rfl, rfl, fun _ => rfl, by decide +kernel, tyX9_ok, nmX9⟩
theorem fX9_22 : pfl RX9 22 9 2 true (.array .int) := ⟨_, _, _, tyX9, rfl, by decide, i_X9, lw_mem (tb1 (List.mem_of_getElem? (i := 215) rfl)) rfl, rfl, fun _ => rfl, by decide +kernel, tyX9_ok, nmX9⟩
theorem fX9_25 : pfl RX9 25 9 3 true (.array .int) := ⟨_, _, _, tyX9, rfl, by decide, i_X9, lw_mem (tb1 (List.mem_of_getElem? (i := 216) rfl)) rfl, rfl, fun _ => rfl, by decide +kernel, tyX9_ok, nmX9⟩
theorem fX9_31 : pfl RX9 31 9 4 true (.object "ChainChoice$PrefixCode") := ⟨_, _, _, tyX9, rfl, by decide, i_X9, lw_mem (tb1 (List.mem_of_getElem? (i := 217) rfl)) rfl, rfl, fun _ => rfl, by decide +kernel, tyX9_ok, nmX9⟩
theorem fX9_38 : pfl RX9 38 9 5 true (.object "ChainChoice$Filters") := ⟨_, _, _, tyX9, rfl, by decide, i_X9, lw_mem (tb1 (List.mem_of_getElem? (i := 218) rfl)) rfl, rfl, fun _ => rfl, by decide +kernel, tyX9_ok, nmX9⟩
theorem fX9_47 : pfl RX9 47 9 6 true (.object "ChainChoice$Row") := ⟨_, _, _, tyX9, rfl, by decide, i_X9, lw_mem (tb1 (List.mem_of_getElem? (i := 219) rfl)) rfl, rfl, fun _ => rfl, by decide +kernel, tyX9_ok, nmX9⟩
theorem fX9_51 : pfl RX9 51 9 7 true (.object "ChainChoice$Row") := ⟨_, _, _, tyX9, rfl, by decide, i_X9, lw_mem (tb1 (List.mem_of_getElem? (i := 220) rfl)) rfl, rfl, fun _ => rfl, by decide +kernel, tyX9_ok, nmX9⟩
theorem fX9_54 : pfl RX9 54 9 8 false (.int) := ⟨_, _, _, tyX9, rfl, by decide, i_X9, lw_mem (tb1 (List.mem_of_getElem? (i := 221) rfl)) rfl, rfl, fun _ => rfl, by decide +kernel, tyX9_ok, nmX9⟩
theorem fX9_58 : pfl RX9 58 9 9 false (.int) := ⟨_, _, _, tyX9, rfl, by decide, i_X9, lw_mem (tb1 (List.mem_of_getElem? (i := 222) rfl)) rfl, rfl, fun _ => rfl, by decide +kernel, tyX9_ok, nmX9⟩
theorem fX9_61 : pfl RX9 61 9 10 false (.int) := ⟨_, _, _, tyX9, rfl, by decide, i_X9, lw_mem (tb1 (List.mem_of_getElem? (i := 223) rfl)) rfl, rfl, fun _ => rfl, by decide +kernel, tyX9_ok, nmX9⟩
theorem fX7_9 : pfl RX7 9 7 0 true (.array .int) := ⟨_, _, _, tyX7, rfl, by decide, i_X7, lw_mem (tb2 (List.mem_of_getElem? (i := 13) rfl)) rfl, rfl, fun _ => rfl, by decide +kernel, tyX7_ok, nmX7⟩
theorem fX10_14 : pfl RX10 14 10 0 true (.object "ChainChoice$Row") := ⟨_, _, _, tyX10, rfl, by decide, i_X10, lw_mem (tb2 (List.mem_of_getElem? (i := 20) rfl)) rfl, rfl, fun _ => rfl, by decide +kernel, tyX10_ok, nmX10⟩
theorem fX10_18 : pfl RX10 18 10 1 true (.object "ChainChoice$Row") := ⟨_, _, _, tyX10, rfl, by decide, i_X10, lw_mem (tb2 (List.mem_of_getElem? (i := 21) rfl)) rfl, rfl, fun _ => rfl, by decide +kernel, tyX10_ok, nmX10⟩
theorem fX10_21 : pfl RX10 21 10 2 true (.object "ChainChoice$Row") := ⟨_, _, _, tyX10, rfl, by decide, i_X10, lw_mem (tb2 (List.mem_of_getElem? (i := 22) rfl)) rfl, rfl, fun _ => rfl, by decide +kernel, tyX10_ok, nmX10⟩
theorem fX10_24 : pfl RX10 24 10 3 true (.object "ChainChoice$Row") := ⟨_, _, _, tyX10, rfl, by decide, i_X10, lw_mem (tb2 (List.mem_of_getElem? (i := 23) rfl)) rfl, rfl, fun _ => rfl, by decide +kernel, tyX10_ok, nmX10⟩
theorem fX10_27 : pfl RX10 27 10 4 true (.object "ChainChoice$Row") := ⟨_, _, _, tyX10, rfl, by decide, i_X10, lw_mem (tb2 (List.mem_of_getElem? (i := 24) rfl)) rfl, rfl, fun _ => rfl, by decide +kernel, tyX10_ok, nmX10⟩
theorem fX10_33 : pfl RX10 33 10 5 true (.object "ChainChoice$Chains") := ⟨_, _, _, tyX10, rfl, by decide, i_X10, lw_mem (tb2 (List.mem_of_getElem? (i := 25) rfl)) rfl, rfl, fun _ => rfl, by decide +kernel, tyX10_ok, nmX10⟩
theorem fX10_40 : pfl RX10 40 10 6 true (.object "ChainChoice$Filters") := ⟨_, _, _, tyX10, rfl, by decide, i_X10, lw_mem (tb2 (List.mem_of_getElem? (i := 26) rfl)) rfl, rfl, fun _ => rfl, by decide +kernel, tyX10_ok, nmX10⟩
theorem fX10_47 : pfl RX10 47 10 7 true (.object "ChainChoice$Packers") := ⟨_, _, _, tyX10, rfl, by decide, i_X10, lw_mem (tb2 (List.mem_of_getElem? (i := 27) rfl)) rfl, rfl, fun _ => rfl, by decide +kernel, tyX10_ok, nmX10⟩
theorem fX10_54 : pfl RX10 54 10 8 true (.object "ChainChoice$Unpacker") := ⟨_, _, _, tyX10, rfl, by decide, i_X10, lw_mem (tb2 (List.mem_of_getElem? (i := 28) rfl)) rfl, rfl, fun _ => rfl, by decide +kernel, tyX10_ok, nmX10⟩
theorem fX10_61 : pfl RX10 61 10 9 true (.object "ChainChoice$Traits") := ⟨_, _, _, tyX10, rfl, by decide, i_X10, lw_mem (tb2 (List.mem_of_getElem? (i := 29) rfl)) rfl, rfl, fun _ => rfl, by decide +kernel, tyX10_ok, nmX10⟩
theorem fX10_65 : pfl RX10 65 10 10 true (.array .int) := ⟨_, _, _, tyX10, rfl, by decide, i_X10, lw_mem (tb2 (List.mem_of_getElem? (i := 30) rfl)) rfl, rfl, fun _ => rfl, by decide +kernel, tyX10_ok, nmX10⟩
theorem fX10_69 : pfl RX10 69 10 11 true (.array .int) := ⟨_, _, _, tyX10, rfl, by decide, i_X10, lw_mem (tb2 (List.mem_of_getElem? (i := 31) rfl)) rfl, rfl, fun _ => rfl, by decide +kernel, tyX10_ok, nmX10⟩
theorem fX10_72 : pfl RX10 72 10 12 false (.boolean) := ⟨_, _, _, tyX10, rfl, by decide, i_X10, lw_mem (tb2 (List.mem_of_getElem? (i := 32) rfl)) rfl, rfl, fun _ => rfl, by decide +kernel, tyX10_ok, nmX10⟩
theorem fX10_76 : pfl RX10 76 10 13 false (.int) := ⟨_, _, _, tyX10, rfl, by decide, i_X10, lw_mem (tb2 (List.mem_of_getElem? (i := 33) rfl)) rfl, rfl, fun _ => rfl, by decide +kernel, tyX10_ok, nmX10⟩
theorem fX11_7 : pfl RX11 7 11 2 true (.array .int) := ⟨_, _, _, tyX11, rfl, by decide, i_X11, lw_mem (tb4 (List.mem_of_getElem? (i := 205) rfl)) rfl, rfl, fun _ => rfl, by decide +kernel, tyX11_ok, nmX11⟩
theorem fX11_13 : pfl RX11 13 11 4 true (.array .int) := ⟨_, _, _, tyX11, rfl, by decide, i_X11, lw_mem (tb4 (List.mem_of_getElem? (i := 207) rfl)) rfl, rfl, fun _ => rfl, by decide +kernel, tyX11_ok, nmX11⟩
theorem fX11_16 : pfl RX11 16 11 6 true (.array .int) := ⟨_, _, _, tyX11, rfl, by decide, i_X11, lw_mem (tb4 (List.mem_of_getElem? (i := 209) rfl)) rfl, rfl, fun _ => rfl, by decide +kernel, tyX11_ok, nmX11⟩
theorem fX11_19 : pfl RX11 19 11 7 true (.array .int) := ⟨_, _, _, tyX11, rfl, by decide, i_X11, lw_mem (tb4 (List.mem_of_getElem? (i := 210) rfl)) rfl, rfl, fun _ => rfl, by decide +kernel, tyX11_ok, nmX11⟩
theorem fX11_22 : pfl RX11 22 11 9 true (.array .int) := ⟨_, _, _, tyX11, rfl, by decide, i_X11, lw_mem (tb4 (List.mem_of_getElem? (i := 212) rfl)) rfl, rfl, fun _ => rfl, by decide +kernel, tyX11_ok, nmX11⟩
theorem fX11_25 : pfl RX11 25 11 13 true (.array .int) := ⟨_, _, _, tyX11, rfl, by decide, i_X11, lw_mem (tb4 (List.mem_of_getElem? (i := 216) rfl)) rfl, rfl, fun _ => rfl, by decide +kernel, tyX11_ok, nmX11⟩
theorem fX11_28 : pfl RX11 28 11 14 true (.array .int) := ⟨_, _, _, tyX11, rfl, by decide, i_X11, lw_mem (tb4 (List.mem_of_getElem? (i := 217) rfl)) rfl, rfl, fun _ => rfl, by decide +kernel, tyX11_ok, nmX11⟩
theorem fX11_31 : pfl RX11 31 11 16 true (.array .int) := ⟨_, _, _, tyX11, rfl, by decide, i_X11, lw_mem (tb4 (List.mem_of_getElem? (i := 219) rfl)) rfl, rfl, fun _ => rfl, by decide +kernel, tyX11_ok, nmX11⟩
theorem fX11_34 : pfl RX11 34 11 18 true (.array .int) := ⟨_, _, _, tyX11, rfl, by decide, i_X11, lw_mem (tb4 (List.mem_of_getElem? (i := 221) rfl)) rfl, rfl, fun _ => rfl, by decide +kernel, tyX11_ok, nmX11⟩
theorem fX11_37 : pfl RX11 37 11 19 true (.array .int) := ⟨_, _, _, tyX11, rfl, by decide, i_X11, lw_mem (tb4 (List.mem_of_getElem? (i := 222) rfl)) rfl, rfl, fun _ => rfl, by decide +kernel, tyX11_ok, nmX11⟩
theorem fX11_40 : pfl RX11 40 11 20 true (.array .int) := ⟨_, _, _, tyX11, rfl, by decide, i_X11, lw_mem (tb4 (List.mem_of_getElem? (i := 223) rfl)) rfl, rfl, fun _ => rfl, by decide +kernel, tyX11_ok, nmX11⟩
theorem fX11_43 : pfl RX11 43 11 21 true (.array .int) := ⟨_, _, _, tyX11, rfl, by decide, i_X11, lw_mem (tb4 (List.mem_of_getElem? (i := 224) rfl)) rfl, rfl, fun _ => rfl, by decide +kernel, tyX11_ok, nmX11⟩
theorem fX11_46 : pfl RX11 46 11 22 true (.array .int) := ⟨_, _, _, tyX11, rfl, by decide, i_X11, lw_mem (tb4 (List.mem_of_getElem? (i := 225) rfl)) rfl, rfl, fun _ => rfl, by decide +kernel, tyX11_ok, nmX11⟩
theorem fX11_49 : pfl RX11 49 11 23 true (.array .int) := ⟨_, _, _, tyX11, rfl, by decide, i_X11, lw_mem (tb4 (List.mem_of_getElem? (i := 226) rfl)) rfl, rfl, fun _ => rfl, by decide +kernel, tyX11_ok, nmX11⟩
theorem fX11_68 : pfl RX11 68 11 24 false (.boolean) := ⟨_, _, _, tyX11, rfl, by decide, i_X11, lw_mem (tb4 (List.mem_of_getElem? (i := 227) rfl)) rfl, rfl, fun _ => rfl, by decide +kernel, tyX11_ok, nmX11⟩
theorem fX11_52 : pfl RX11 52 11 25 true (.array .int) := ⟨_, _, _, tyX11, rfl, by decide, i_X11, lw_mem (tb4 (List.mem_of_getElem? (i := 228) rfl)) rfl, rfl, fun _ => rfl, by decide +kernel, tyX11_ok, nmX11⟩
theorem fX11_55 : pfl RX11 55 11 26 true (.array .int) := ⟨_, _, _, tyX11, rfl, by decide, i_X11, lw_mem (tb4 (List.mem_of_getElem? (i := 229) rfl)) rfl, rfl, fun _ => rfl, by decide +kernel, tyX11_ok, nmX11⟩
theorem fX11_58 : pfl RX11 58 11 28 false (.int) := ⟨_, _, _, tyX11, rfl, by decide, i_X11, lw_mem (tb4 (List.mem_of_getElem? (i := 231) rfl)) rfl, rfl, fun _ => rfl, by decide +kernel, tyX11_ok, nmX11⟩
abbrev mX10_init : MD := (yX10_init, cX10_init, 1, none, 4, 81)
theorem hX10_init : Cond.code yX10_init cX10_init 1 (none) ∈ lw_good := lw_mem (tb1 (List.mem_of_getElem? (i := 24) rfl)) rfl
abbrev mX6_init : MD := (yX6_init, cX6_init, 2, none, 1, 20)
theorem hX6_init : Cond.code yX6_init cX6_init 2 (none) ∈ lw_good := lw_mem (tb1 (List.mem_of_getElem? (i := 32) rfl)) rfl
abbrev mX1_init : MD := (yX1_init, cX1_init, 1, none, 1, 20)
theorem hX1_init : Cond.code yX1_init cX1_init 1 (none) ∈ lw_good := lw_mem (tb1 (List.mem_of_getElem? (i := 46) rfl)) rfl
abbrev mX2_init : MD := (yX2_init, cX2_init, 1, none, 1, 20)
theorem hX2_init : Cond.code yX2_init cX2_init 1 (none) ∈ lw_good := lw_mem (tb1 (List.mem_of_getElem? (i := 68) rfl)) rfl
abbrev mX3_init : MD := (yX3_init, cX3_init, 1, none, 2, 40)
theorem hX3_init : Cond.code yX3_init cX3_init 1 (none) ∈ lw_good := lw_mem (tb1 (List.mem_of_getElem? (i := 78) rfl)) rfl
abbrev mX0_init : MD := (yX0_init, cX0_init, 1, none, 1, 20)
theorem hX0_init : Cond.code yX0_init cX0_init 1 (none) ∈ lw_good := lw_mem (tb1 (List.mem_of_getElem? (i := 84) rfl)) rfl
abbrev mX8_init : MD := (yX8_init, cX8_init, 1, none, 1, 20)
theorem hX8_init : Cond.code yX8_init cX8_init 1 (none) ∈ lw_good := lw_mem (tb1 (List.mem_of_getElem? (i := 97) rfl)) rfl
abbrev mX4_init : MD := (yX4_init, cX4_init, 1, none, 1, 20)
theorem hX4_init : Cond.code yX4_init cX4_init 1 (none) ∈ lw_good := lw_mem (tb1 (List.mem_of_getElem? (i := 125) rfl)) rfl
abbrev mX9_init : MD := (yX9_init, cX9_init, 1, none, 3, 61)
theorem hX9_init : Cond.code yX9_init cX9_init 1 (none) ∈ lw_good := lw_mem (tb1 (List.mem_of_getElem? (i := 178) rfl)) rfl
abbrev mX5_init : MD := (yX5_init, cX5_init, 1, none, 2, 41)
theorem hX5_init : Cond.code yX5_init cX5_init 1 (none) ∈ lw_good := lw_mem (tb1 (List.mem_of_getElem? (i := 184) rfl)) rfl
abbrev mX7_init : MD := (yX7_init, cX7_init, 1, none, 1, 20)
theorem hX7_init : Cond.code yX7_init cX7_init 1 (none) ∈ lw_good := lw_mem (tb2 (List.mem_of_getElem? (i := 11) rfl)) rfl
abbrev mJ7_fill_53178 : MD := (yJ7_fill_53178, cJ7_fill_53178, 4, none, 0, 0)
theorem hJ7_fill_53178 : Cond.code yJ7_fill_53178 cJ7_fill_53178 4 (none) ∈ lw_good := lw_mem (tb2 (List.mem_of_getElem? (i := 19) rfl)) rfl
abbrev mX11_init : MD := (yX11_init, cX11_init, 1, none, 1, 21)
theorem hX11_init : Cond.code yX11_init cX11_init 1 (none) ∈ lw_good := lw_mem (tb4 (List.mem_of_getElem? (i := 197) rfl)) rfl
abbrev mX11_lose : MD := (yX11_lose, cX11_lose, 2, none, 0, 0)
theorem hX11_lose : Cond.code yX11_lose cX11_lose 2 (none) ∈ lw_good := lw_mem (tb4 (List.mem_of_getElem? (i := 202) rfl)) rfl
theorem bmX6_init (own : String) : pmB own mX6_init 1 := ⟨lw_mem (tb1 (List.mem_of_getElem? (i := 2) rfl)) rfl, hX6_init, by decide +kernel, by decide +kernel, by decide +kernel⟩
theorem lX10_11 : pmI RX10 11 mX6_init 1 := ⟨bmX6_init _, lw_mem (tb1 (List.mem_of_getElem? (i := 30) rfl)) rfl, lw_mem (tb1 (List.mem_of_getElem? (i := 31) rfl)) rfl, rfl, rfl⟩
theorem bmX1_init (own : String) : pmB own mX1_init 0 := ⟨lw_mem (tb1 (List.mem_of_getElem? (i := 3) rfl)) rfl, hX1_init, by decide +kernel, by decide +kernel, by decide +kernel⟩
theorem lX10_32 : pmN RX10 32 mX1_init 0 := ⟨bmX1_init _, List.mem_filter.mpr ⟨(tb1 (List.mem_of_getElem? (i := 44) rfl)), rfl⟩, lw_mem (tb1 (List.mem_of_getElem? (i := 45) rfl)) rfl, rfl, rfl⟩
theorem bmX2_init (own : String) : pmB own mX2_init 0 := ⟨lw_mem (tb1 (List.mem_of_getElem? (i := 4) rfl)) rfl, hX2_init, by decide +kernel, by decide +kernel, by decide +kernel⟩
theorem lX10_39 : pmN RX10 39 mX2_init 0 := ⟨bmX2_init _, List.mem_filter.mpr ⟨(tb1 (List.mem_of_getElem? (i := 66) rfl)), rfl⟩, lw_mem (tb1 (List.mem_of_getElem? (i := 67) rfl)) rfl, rfl, rfl⟩
theorem bmX3_init (own : String) : pmB own mX3_init 0 := ⟨lw_mem (tb1 (List.mem_of_getElem? (i := 5) rfl)) rfl, hX3_init, by decide +kernel, by decide +kernel, by decide +kernel⟩
theorem lX10_46 : pmN RX10 46 mX3_init 0 := ⟨bmX3_init _, List.mem_filter.mpr ⟨(tb1 (List.mem_of_getElem? (i := 76) rfl)), rfl⟩, lw_mem (tb1 (List.mem_of_getElem? (i := 77) rfl)) rfl, rfl, rfl⟩
theorem bmX9_init (own : String) : pmB own mX9_init 0 := ⟨lw_mem (tb1 (List.mem_of_getElem? (i := 9) rfl)) rfl, hX9_init, by decide +kernel, by decide +kernel, by decide +kernel⟩
theorem lX10_53 : pmN RX10 53 mX9_init 0 := ⟨bmX9_init _, List.mem_filter.mpr ⟨(tb1 (List.mem_of_getElem? (i := 176) rfl)), rfl⟩, lw_mem (tb1 (List.mem_of_getElem? (i := 177) rfl)) rfl, rfl, rfl⟩
theorem bmX7_init (own : String) : pmB own mX7_init 0 := ⟨lw_mem (tb1 (List.mem_of_getElem? (i := 11) rfl)) rfl, hX7_init, by decide +kernel, by decide +kernel, by decide +kernel⟩
theorem lX10_60 : pmN RX10 60 mX7_init 0 := ⟨bmX7_init _, List.mem_filter.mpr ⟨(tb2 (List.mem_of_getElem? (i := 9) rfl)), rfl⟩, lw_mem (tb2 (List.mem_of_getElem? (i := 10) rfl)) rfl, rfl, rfl⟩
theorem bmJ7_fill_53178 (own : String) : pmB own mJ7_fill_53178 2 := ⟨lw_mem (tb1 (List.mem_of_getElem? (i := 12) rfl)) rfl, hJ7_fill_53178, by decide +kernel, by decide +kernel, by decide +kernel⟩
theorem lX10_80 : pmS RX10 80 mJ7_fill_53178 2 := ⟨bmJ7_fill_53178 _, lw_mem (tb2 (List.mem_of_getElem? (i := 17) rfl)) rfl, lw_mem (tb2 (List.mem_of_getElem? (i := 18) rfl)) rfl⟩
theorem bmX0_init (own : String) : pmB own mX0_init 0 := ⟨lw_mem (tb1 (List.mem_of_getElem? (i := 6) rfl)) rfl, hX0_init, by decide +kernel, by decide +kernel, by decide +kernel⟩
theorem lX3_26 : pmN RX3 26 mX0_init 0 := ⟨bmX0_init _, List.mem_filter.mpr ⟨(tb1 (List.mem_of_getElem? (i := 82) rfl)), rfl⟩, lw_mem (tb1 (List.mem_of_getElem? (i := 83) rfl)) rfl, rfl, rfl⟩
theorem bmX8_init (own : String) : pmB own mX8_init 0 := ⟨lw_mem (tb1 (List.mem_of_getElem? (i := 7) rfl)) rfl, hX8_init, by decide +kernel, by decide +kernel, by decide +kernel⟩
theorem lX3_33 : pmN RX3 33 mX8_init 0 := ⟨bmX8_init _, List.mem_filter.mpr ⟨(tb1 (List.mem_of_getElem? (i := 95) rfl)), rfl⟩, lw_mem (tb1 (List.mem_of_getElem? (i := 96) rfl)) rfl, rfl, rfl⟩
theorem bmX4_init (own : String) : pmB own mX4_init 0 := ⟨lw_mem (tb1 (List.mem_of_getElem? (i := 8) rfl)) rfl, hX4_init, by decide +kernel, by decide +kernel, by decide +kernel⟩
theorem lX3_40 : pmN RX3 40 mX4_init 0 := ⟨bmX4_init _, List.mem_filter.mpr ⟨(tb1 (List.mem_of_getElem? (i := 123) rfl)), rfl⟩, lw_mem (tb1 (List.mem_of_getElem? (i := 124) rfl)) rfl, rfl, rfl⟩
theorem lX5_11 : pmI RX5 11 mX6_init 1 := ⟨bmX6_init _, lw_mem (tb1 (List.mem_of_getElem? (i := 187) rfl)) rfl, lw_mem (tb1 (List.mem_of_getElem? (i := 31) rfl)) rfl, rfl, rfl⟩
theorem bmX5_init (own : String) : pmB own mX5_init 0 := ⟨lw_mem (tb1 (List.mem_of_getElem? (i := 10) rfl)) rfl, hX5_init, by decide +kernel, by decide +kernel, by decide +kernel⟩
theorem lX9_11 : pmN RX9 11 mX5_init 0 := ⟨bmX5_init _, List.mem_filter.mpr ⟨(tb1 (List.mem_of_getElem? (i := 182) rfl)), rfl⟩, lw_mem (tb1 (List.mem_of_getElem? (i := 183) rfl)) rfl, rfl, rfl⟩
theorem lX9_30 : pmN RX9 30 mX4_init 0 := ⟨bmX4_init _, List.mem_filter.mpr ⟨(tb1 (List.mem_of_getElem? (i := 208) rfl)), rfl⟩, lw_mem (tb1 (List.mem_of_getElem? (i := 124) rfl)) rfl, rfl, rfl⟩
theorem lX9_37 : pmN RX9 37 mX2_init 0 := ⟨bmX2_init _, List.mem_filter.mpr ⟨(tb1 (List.mem_of_getElem? (i := 210) rfl)), rfl⟩, lw_mem (tb1 (List.mem_of_getElem? (i := 67) rfl)) rfl, rfl, rfl⟩
theorem lX9_44 : pmI RX9 44 mX6_init 1 := ⟨bmX6_init _, lw_mem (tb1 (List.mem_of_getElem? (i := 212) rfl)) rfl, lw_mem (tb1 (List.mem_of_getElem? (i := 31) rfl)) rfl, rfl, rfl⟩
theorem bmX10_init (own : String) : pmB own mX10_init 0 := ⟨lw_mem (tb1 (List.mem_of_getElem? (i := 1) rfl)) rfl, hX10_init, by decide +kernel, by decide +kernel, by decide +kernel⟩
theorem lL_15 : pmI RL 15 mX10_init 0 := ⟨bmX10_init _, lw_mem (tb1 (List.mem_of_getElem? (i := 22) rfl)) rfl, lw_mem (tb1 (List.mem_of_getElem? (i := 23) rfl)) rfl, rfl, rfl⟩
theorem bmX11_init (own : String) : pmB own mX11_init 0 := ⟨lw_mem (tb1 (List.mem_of_getElem? (i := 13) rfl)) rfl, hX11_init, by decide +kernel, by decide +kernel, by decide +kernel⟩
theorem lL_18 : pmI RL 18 mX11_init 0 := ⟨bmX11_init _, lw_mem (tb4 (List.mem_of_getElem? (i := 195) rfl)) rfl, lw_mem (tb4 (List.mem_of_getElem? (i := 196) rfl)) rfl, rfl, rfl⟩
theorem bmX11_lose (own : String) : pmB own mX11_lose 0 := ⟨lw_mem (tb1 (List.mem_of_getElem? (i := 13) rfl)) rfl, hX11_lose, by decide +kernel, by decide +kernel, by decide +kernel⟩
theorem lX11_62 : pmV RX11 62 mX11_lose 0 := ⟨bmX11_lose _, lw_mem (tb4 (List.mem_of_getElem? (i := 199) rfl)) rfl, lw_mem (tb4 (List.mem_of_getElem? (i := 201) rfl)) rfl, lw_mem (List.mem_append_left _ (List.mem_of_getElem? (i := 34) rfl)) rfl⟩
theorem o_inst : Cond.instanceMethod Lib.objectInit ∈ lw_good := lw_mem (tb1 (List.mem_of_getElem? (i := 26) rfl)) rfl
theorem o_code : Cond.code Lib.objectInit ⟨#[0xb1]⟩ 1 none ∈ lw_good := lw_mem (tb1 (List.mem_of_getElem? (i := 27) rfl)) rfl
theorem lX10_1 : Cond.methodLink RX10 1 Lib.objectInit ∈ lw_good := lw_mem (tb1 (List.mem_of_getElem? (i := 25) rfl)) rfl
theorem lX0_1 : Cond.methodLink RX0 1 Lib.objectInit ∈ lw_good := lw_mem (tb1 (List.mem_of_getElem? (i := 85) rfl)) rfl
theorem lX1_3 : Cond.methodLink RX1 3 Lib.objectInit ∈ lw_good := lw_mem (tb1 (List.mem_of_getElem? (i := 47) rfl)) rfl
theorem lX2_3 : Cond.methodLink RX2 3 Lib.objectInit ∈ lw_good := lw_mem (tb1 (List.mem_of_getElem? (i := 69) rfl)) rfl
theorem lX3_3 : Cond.methodLink RX3 3 Lib.objectInit ∈ lw_good := lw_mem (tb1 (List.mem_of_getElem? (i := 79) rfl)) rfl
theorem lX4_3 : Cond.methodLink RX4 3 Lib.objectInit ∈ lw_good := lw_mem (tb1 (List.mem_of_getElem? (i := 126) rfl)) rfl
theorem lX5_3 : Cond.methodLink RX5 3 Lib.objectInit ∈ lw_good := lw_mem (tb1 (List.mem_of_getElem? (i := 185) rfl)) rfl
theorem lX6_1 : Cond.methodLink RX6 1 Lib.objectInit ∈ lw_good := lw_mem (tb1 (List.mem_of_getElem? (i := 33) rfl)) rfl
theorem lX7_3 : Cond.methodLink RX7 3 Lib.objectInit ∈ lw_good := lw_mem (tb2 (List.mem_of_getElem? (i := 12) rfl)) rfl
theorem lX8_3 : Cond.methodLink RX8 3 Lib.objectInit ∈ lw_good := lw_mem (tb1 (List.mem_of_getElem? (i := 98) rfl)) rfl
theorem lX9_3 : Cond.methodLink RX9 3 Lib.objectInit ∈ lw_good := lw_mem (tb1 (List.mem_of_getElem? (i := 179) rfl)) rfl
theorem lX11_1 : Cond.methodLink RX11 1 Lib.objectInit ∈ lw_good := lw_mem (tb4 (List.mem_of_getElem? (i := 198) rfl)) rfl
theorem ar_int : Cond.arrayClass .int ∈ lw_good := lw_mem (tb1 (List.mem_of_getElem? (i := 41) rfl)) rfl
abbrev zL_8 : List Value := [.null, .null, .null, .null, .null, .null, .null, .null, .null, .null, .null, .null, .int 0, .int 0]
theorem kL_8 : pcl RL 8 10 14 zL_8 := ⟨_, _, tyX10, rfl, i_X10, lw_mem (tb1 (List.mem_of_getElem? (i := 20) rfl)) rfl, lw_mem (tb1 (List.mem_of_getElem? (i := 21) rfl)) rfl, lw_mem (tb1 (List.mem_of_getElem? (i := 1) rfl)) rfl, tyX10_ok, fun σ base j hj => by
  match j, hj with
  | 0, _ => rfl
  | 1, _ => rfl
  | 2, _ => rfl
  | 3, _ => rfl
  | 4, _ => rfl
  | 5, _ => rfl
  | 6, _ => rfl
  | 7, _ => rfl
  | 8, _ => rfl
  | 9, _ => rfl
  | 10, _ => rfl
  | 11, _ => rfl
  | 12, _ => rfl
  | 13, _ => rfl
  | j + 14, hj => omega⟩
abbrev zX10_7 : List Value := [.null, .int 0]
theorem kX10_7 : pcl RX10 7 6 2 zX10_7 := ⟨_, _, tyX6, rfl, i_X6, lw_mem (tb1 (List.mem_of_getElem? (i := 28) rfl)) rfl, lw_mem (tb1 (List.mem_of_getElem? (i := 29) rfl)) rfl, lw_mem (tb1 (List.mem_of_getElem? (i := 2) rfl)) rfl, tyX6_ok, fun σ base j hj => by
  match j, hj with
  | 0, _ => rfl
  | 1, _ => rfl
  | j + 2, hj => omega⟩
abbrev zX10_30 : List Value := [.null, .null, .int 0, .null, .int 0]
theorem kX10_30 : pcl RX10 30 1 5 zX10_30 := ⟨_, _, tyX1, rfl, i_X1, lw_mem (tb1 (List.mem_of_getElem? (i := 42) rfl)) rfl, lw_mem (tb1 (List.mem_of_getElem? (i := 43) rfl)) rfl, lw_mem (tb1 (List.mem_of_getElem? (i := 3) rfl)) rfl, tyX1_ok, fun σ base j hj => by
  match j, hj with
  | 0, _ => rfl
  | 1, _ => rfl
  | 2, _ => rfl
  | 3, _ => rfl
  | 4, _ => rfl
  | j + 5, hj => omega⟩
abbrev zX10_37 : List Value := [.null]
theorem kX10_37 : pcl RX10 37 2 1 zX10_37 := ⟨_, _, tyX2, rfl, i_X2, lw_mem (tb1 (List.mem_of_getElem? (i := 64) rfl)) rfl, lw_mem (tb1 (List.mem_of_getElem? (i := 65) rfl)) rfl, lw_mem (tb1 (List.mem_of_getElem? (i := 4) rfl)) rfl, tyX2_ok, fun σ base j hj => by
  match j, hj with
  | 0, _ => rfl
  | j + 1, hj => omega⟩
abbrev zX10_44 : List Value := [.null, .null, .null, .null, .null, .null, .null, .int 0, .int 0]
theorem kX10_44 : pcl RX10 44 3 9 zX10_44 := ⟨_, _, tyX3, rfl, i_X3, lw_mem (tb1 (List.mem_of_getElem? (i := 74) rfl)) rfl, lw_mem (tb1 (List.mem_of_getElem? (i := 75) rfl)) rfl, lw_mem (tb1 (List.mem_of_getElem? (i := 5) rfl)) rfl, tyX3_ok, fun σ base j hj => by
  match j, hj with
  | 0, _ => rfl
  | 1, _ => rfl
  | 2, _ => rfl
  | 3, _ => rfl
  | 4, _ => rfl
  | 5, _ => rfl
  | 6, _ => rfl
  | 7, _ => rfl
  | 8, _ => rfl
  | j + 9, hj => omega⟩
abbrev zX3_24 : List Value := [.int 0, .int 0]
theorem kX3_24 : pcl RX3 24 0 2 zX3_24 := ⟨_, _, tyX0, rfl, i_X0, lw_mem (tb1 (List.mem_of_getElem? (i := 80) rfl)) rfl, lw_mem (tb1 (List.mem_of_getElem? (i := 81) rfl)) rfl, lw_mem (tb1 (List.mem_of_getElem? (i := 6) rfl)) rfl, tyX0_ok, fun σ base j hj => by
  match j, hj with
  | 0, _ => rfl
  | 1, _ => rfl
  | j + 2, hj => omega⟩
abbrev zX3_31 : List Value := [.null, .null, .null, .null, .int 0, .int 0, .int 0]
theorem kX3_31 : pcl RX3 31 8 7 zX3_31 := ⟨_, _, tyX8, rfl, i_X8, lw_mem (tb1 (List.mem_of_getElem? (i := 93) rfl)) rfl, lw_mem (tb1 (List.mem_of_getElem? (i := 94) rfl)) rfl, lw_mem (tb1 (List.mem_of_getElem? (i := 7) rfl)) rfl, tyX8_ok, fun σ base j hj => by
  match j, hj with
  | 0, _ => rfl
  | 1, _ => rfl
  | 2, _ => rfl
  | 3, _ => rfl
  | 4, _ => rfl
  | 5, _ => rfl
  | 6, _ => rfl
  | j + 7, hj => omega⟩
abbrev zX3_38 : List Value := [.null, .null, .null, .null, .null, .int 0]
theorem kX3_38 : pcl RX3 38 4 6 zX3_38 := ⟨_, _, tyX4, rfl, i_X4, lw_mem (tb1 (List.mem_of_getElem? (i := 121) rfl)) rfl, lw_mem (tb1 (List.mem_of_getElem? (i := 122) rfl)) rfl, lw_mem (tb1 (List.mem_of_getElem? (i := 8) rfl)) rfl, tyX4_ok, fun σ base j hj => by
  match j, hj with
  | 0, _ => rfl
  | 1, _ => rfl
  | 2, _ => rfl
  | 3, _ => rfl
  | 4, _ => rfl
  | 5, _ => rfl
  | j + 6, hj => omega⟩
abbrev zX10_51 : List Value := [.null, .null, .null, .null, .null, .null, .null, .null, .int 0, .int 0, .int 0]
theorem kX10_51 : pcl RX10 51 9 11 zX10_51 := ⟨_, _, tyX9, rfl, i_X9, lw_mem (tb1 (List.mem_of_getElem? (i := 174) rfl)) rfl, lw_mem (tb1 (List.mem_of_getElem? (i := 175) rfl)) rfl, lw_mem (tb1 (List.mem_of_getElem? (i := 9) rfl)) rfl, tyX9_ok, fun σ base j hj => by
  match j, hj with
  | 0, _ => rfl
  | 1, _ => rfl
  | 2, _ => rfl
  | 3, _ => rfl
  | 4, _ => rfl
  | 5, _ => rfl
  | 6, _ => rfl
  | 7, _ => rfl
  | 8, _ => rfl
  | 9, _ => rfl
  | 10, _ => rfl
  | j + 11, hj => omega⟩
abbrev zX9_9 : List Value := [.null, .int 0, .int 0, .int 0, .int 0, .int 0]
theorem kX9_9 : pcl RX9 9 5 6 zX9_9 := ⟨_, _, tyX5, rfl, i_X5, lw_mem (tb1 (List.mem_of_getElem? (i := 180) rfl)) rfl, lw_mem (tb1 (List.mem_of_getElem? (i := 181) rfl)) rfl, lw_mem (tb1 (List.mem_of_getElem? (i := 10) rfl)) rfl, tyX5_ok, fun σ base j hj => by
  match j, hj with
  | 0, _ => rfl
  | 1, _ => rfl
  | 2, _ => rfl
  | 3, _ => rfl
  | 4, _ => rfl
  | 5, _ => rfl
  | j + 6, hj => omega⟩
abbrev zX5_9 : List Value := [.null, .int 0]
theorem kX5_9 : pcl RX5 9 6 2 zX5_9 := ⟨_, _, tyX6, rfl, i_X6, lw_mem (tb1 (List.mem_of_getElem? (i := 186) rfl)) rfl, lw_mem (tb1 (List.mem_of_getElem? (i := 29) rfl)) rfl, lw_mem (tb1 (List.mem_of_getElem? (i := 2) rfl)) rfl, tyX6_ok, fun σ base j hj => by
  match j, hj with
  | 0, _ => rfl
  | 1, _ => rfl
  | j + 2, hj => omega⟩
abbrev zX9_28 : List Value := [.null, .null, .null, .null, .null, .int 0]
theorem kX9_28 : pcl RX9 28 4 6 zX9_28 := ⟨_, _, tyX4, rfl, i_X4, lw_mem (tb1 (List.mem_of_getElem? (i := 207) rfl)) rfl, lw_mem (tb1 (List.mem_of_getElem? (i := 122) rfl)) rfl, lw_mem (tb1 (List.mem_of_getElem? (i := 8) rfl)) rfl, tyX4_ok, fun σ base j hj => by
  match j, hj with
  | 0, _ => rfl
  | 1, _ => rfl
  | 2, _ => rfl
  | 3, _ => rfl
  | 4, _ => rfl
  | 5, _ => rfl
  | j + 6, hj => omega⟩
abbrev zX9_35 : List Value := [.null]
theorem kX9_35 : pcl RX9 35 2 1 zX9_35 := ⟨_, _, tyX2, rfl, i_X2, lw_mem (tb1 (List.mem_of_getElem? (i := 209) rfl)) rfl, lw_mem (tb1 (List.mem_of_getElem? (i := 65) rfl)) rfl, lw_mem (tb1 (List.mem_of_getElem? (i := 4) rfl)) rfl, tyX2_ok, fun σ base j hj => by
  match j, hj with
  | 0, _ => rfl
  | j + 1, hj => omega⟩
abbrev zX9_42 : List Value := [.null, .int 0]
theorem kX9_42 : pcl RX9 42 6 2 zX9_42 := ⟨_, _, tyX6, rfl, i_X6, lw_mem (tb1 (List.mem_of_getElem? (i := 211) rfl)) rfl, lw_mem (tb1 (List.mem_of_getElem? (i := 29) rfl)) rfl, lw_mem (tb1 (List.mem_of_getElem? (i := 2) rfl)) rfl, tyX6_ok, fun σ base j hj => by
  match j, hj with
  | 0, _ => rfl
  | 1, _ => rfl
  | j + 2, hj => omega⟩
abbrev zX10_58 : List Value := [.null]
theorem kX10_58 : pcl RX10 58 7 1 zX10_58 := ⟨_, _, tyX7, rfl, i_X7, lw_mem (tb2 (List.mem_of_getElem? (i := 7) rfl)) rfl, lw_mem (tb2 (List.mem_of_getElem? (i := 8) rfl)) rfl, lw_mem (tb1 (List.mem_of_getElem? (i := 11) rfl)) rfl, tyX7_ok, fun σ base j hj => by
  match j, hj with
  | 0, _ => rfl
  | j + 1, hj => omega⟩
abbrev zL_16 : List Value := [.int 0, .int 0, .null, .int 0, .null, .int 0, .null, .null, .int 0, .null, .int 0, .int 0, .int 0, .null, .null, .int 0, .null, .int 0, .null, .null, .null, .null, .null, .null, .int 0, .null, .null, .int 0, .int 0, .int 0, .int 0, .int 0, .int 0, .int 0, .int 0]
theorem kL_16 : pcl RL 16 11 35 zL_16 := ⟨_, _, tyX11, rfl, i_X11, lw_mem (tb4 (List.mem_of_getElem? (i := 193) rfl)) rfl, lw_mem (tb4 (List.mem_of_getElem? (i := 194) rfl)) rfl, lw_mem (tb1 (List.mem_of_getElem? (i := 13) rfl)) rfl, tyX11_ok, fun σ base j hj => by
  match j, hj with
  | 0, _ => rfl
  | 1, _ => rfl
  | 2, _ => rfl
  | 3, _ => rfl
  | 4, _ => rfl
  | 5, _ => rfl
  | 6, _ => rfl
  | 7, _ => rfl
  | 8, _ => rfl
  | 9, _ => rfl
  | 10, _ => rfl
  | 11, _ => rfl
  | 12, _ => rfl
  | 13, _ => rfl
  | 14, _ => rfl
  | 15, _ => rfl
  | 16, _ => rfl
  | 17, _ => rfl
  | 18, _ => rfl
  | 19, _ => rfl
  | 20, _ => rfl
  | 21, _ => rfl
  | 22, _ => rfl
  | 23, _ => rfl
  | 24, _ => rfl
  | 25, _ => rfl
  | 26, _ => rfl
  | 27, _ => rfl
  | 28, _ => rfl
  | 29, _ => rfl
  | 30, _ => rfl
  | 31, _ => rfl
  | 32, _ => rfl
  | 33, _ => rfl
  | 34, _ => rfl
  | j + 35, hj => omega⟩
end
section
/-! the shape of the world: cell i is a row of n ints, or an object of class ci whose fields are numbers (none) or fixed references (some j; 999: the one that changes, Reader.from) -/
section
variable {Γ : Nat × (Nat → Int32)} {M : MD} {pc : Nat} {l st : List Value} {F A : Nat → Nat → Int32} {rf : Nat} {lo : Int64} {X : PH} {bc bs : Nat} {Q : Option Value → PH → Prop}
end
section
variable {Γ : Nat × (Nat → Int32)} {M : MD} {pc : Nat} {l l' st : List Value} {h : PH} {bc bs : Nat} {Q : Option Value → PH → Prop}
theorem ps_istore_n {i : Fin 4} {x : Int32} (hdg : decode (mcode M) pc = .ok (.istore_n i, 1)) (hi : (i : Nat) < mxl M) (hn : pnl l (i : Nat) = true) (hl : l.set (i : Nat) (.int x) = l') (k : PW Γ M (pc + 1) l' st h bc bs Q) : PW Γ M pc l (.int x :: st) h bc bs Q := pw_istore_n hdg hi hn (hl ▸ k)
theorem ps_astore_n {i : Fin 4} {x : Nat} (hdg : decode (mcode M) pc = .ok (.astore_n i, 1)) (hi : (i : Nat) < mxl M) (hn : pnl l (i : Nat) = true) (hl : l.set (i : Nat) (.ref x) = l') (k : PW Γ M (pc + 1) l' st h bc bs Q) : PW Γ M pc l (.ref x :: st) h bc bs Q := pw_astore_n hdg hi hn (hl ▸ k)
theorem ps_iinc {i : Nat} {n : Int} {x : Int32} (d : Int32) (hdg : decode (mcode M) pc = .ok (.iinc i n, 3)) (hd : Int32.ofInt n = d) (hg : l[i]? = some (.int x)) (hi : i < mxl M) (hn : pnl l i = true) (hl : l.set i (.int (x + d)) = l') (k : PW Γ M (pc + 3) l' st h bc bs Q) : PW Γ M pc l st h bc bs Q := pw_iinc d hdg hd hg hi hn (hl ▸ k)
theorem PM.go {as : List Value} (hy : plainName M.1.cls = true) (hc : as.all (fun v => v.category == 1) = true) (hn : as.length ≤ mxl M) (hl : as ++ List.replicate (mxl M - as.length) (.float 0) = l) (hw : PW Γ M 0 l [] h bc bs Q) (hnl : ¬ mfr M = 10 := by decide) : PM Γ M as h bc bs Q :=
  PM.of hy (fun v hv => by simpa using List.all_eq_true.mp hc v hv) hn hnl (hl ▸ hw)
end
section
variable {Γ : Nat × (Nat → Int32)} {M : MD} {pc : Nat} {l st : List Value} {F A : Nat → Nat → Int32} {rf : Nat} {lo : Int64} {X : PH} {bc bs : Nat} {Q : Option Value → PH → Prop} {M' : MD} {idx b ci : Nat} {fl : List (Option Nat)} {a1 a2 a3 a4 : Value}
end
end
section
/-! the JDK's four, Row.become, Row.countInto -/
def cpn (f g : Nat → Int32) (n : Nat) : Nat → Int32 := fun j => if j < n then f j else g j
section
variable {Γ : Nat × (Nat → Int32)} {F A : Nat → Nat → Int32} {rf : Nat} {lo : Int64} {X h : PH} {Q : Option Value → PH → Prop} {r c cap n : Nat}
theorem cpn_step {f g : Nat → Int32} {i : Nat} {v : Int32} (h : v = f i) : upd (cpn f g i) i v = cpn f g (i + 1) := by
  funext j
  unfold upd cpn
  by_cases h1 : j = i
  · subst h1
    simp [h]
  · by_cases h2 : j < i
    · simp [h1, h2, Nat.lt_succ_of_lt h2]
    · simp [h1, h2, show ¬ j < i + 1 by omega]
theorem cpn_0 {f g : Nat → Int32} : cpn f g 0 = g := by
  funext j
  simp [cpn]
end
end

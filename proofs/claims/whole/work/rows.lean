section
-- ===== PART A: goes FIRST, ahead of the names: the tables' words, and 'selects' of the private methods out of them =====
/-- a private method of a class that the tables say can be made, by its rows of tables_1 -/
def lw_okq (q : MethodName × Nat) : Prop := (q.1.cls ≠ "java/lang/invoke/MethodHandle" ∧ q.1.cls ≠ "java/lang/invoke/VarHandle") ∧ Cond.instantiable q.1.cls q.2 ∈ tables_1 ∧ Cond.privateMethod q.1 ∈ tables_1 ∧ Cond.instanceMethod q.1 ∈ tables_1
theorem lw_p0 : lw_okq (⟨"RowsDrawn", "readSheet", "(LRowsDrawn$Reader;)I"⟩, 15) := ⟨⟨by decide +kernel, by decide +kernel⟩, List.mem_of_getElem? (i := 17) (by decide +kernel), List.mem_of_getElem? (i := 224) (by decide +kernel), List.mem_of_getElem? (i := 225) (by decide +kernel)⟩
theorem lw_p1 : lw_okq (⟨"RowsDrawn$PageReader", "takesKind", "(I)Z"⟩, 8) := ⟨⟨by decide +kernel, by decide +kernel⟩, List.mem_of_getElem? (i := 31) (by decide +kernel), List.mem_of_getElem? (i := 247) (by decide +kernel), List.mem_of_getElem? (i := 248) (by decide +kernel)⟩
theorem lw_p2 : lw_okq (⟨"RowsDrawn$PageReader", "takesDigit", "(I)Z"⟩, 8) := ⟨⟨by decide +kernel, by decide +kernel⟩, List.mem_of_getElem? (i := 31) (by decide +kernel), List.mem_of_getElem? (i := 255) (by decide +kernel), List.mem_of_getElem? (i := 256) (by decide +kernel)⟩
theorem lw_p3 : lw_okq (⟨"RowsDrawn$PageReader", "lastBoxGoesOn", "()Z"⟩, 8) := ⟨⟨by decide +kernel, by decide +kernel⟩, List.mem_of_getElem? (i := 31) (by decide +kernel), List.mem_of_getElem? (i := 259) (by decide +kernel), List.mem_of_getElem? (i := 260) (by decide +kernel)⟩
theorem lw_p4 : lw_okq (⟨"RowsDrawn$PageReader", "takesOpening", "()Z"⟩, 8) := ⟨⟨by decide +kernel, by decide +kernel⟩, List.mem_of_getElem? (i := 31) (by decide +kernel), List.mem_of_getElem? (i := 263) (by decide +kernel), List.mem_of_getElem? (i := 264) (by decide +kernel)⟩
theorem lw_p5 : lw_okq (⟨"RowsDrawn$PageReader", "takesClosing", "()Z"⟩, 8) := ⟨⟨by decide +kernel, by decide +kernel⟩, List.mem_of_getElem? (i := 31) (by decide +kernel), List.mem_of_getElem? (i := 267) (by decide +kernel), List.mem_of_getElem? (i := 268) (by decide +kernel)⟩
theorem lw_p6 : lw_okq (⟨"RowsDrawn$RuleReader", "takesStep", "(I)Z"⟩, 4) := ⟨⟨by decide +kernel, by decide +kernel⟩, List.mem_of_getElem? (i := 71) (by decide +kernel), List.mem_of_getElem? (i := 276) (by decide +kernel), List.mem_of_getElem? (i := 277) (by decide +kernel)⟩
theorem lw_p7 : lw_okq (⟨"RowsDrawn", "sheetIsRead", "(LRowsDrawn$Reader;)Z"⟩, 15) := ⟨⟨by decide +kernel, by decide +kernel⟩, List.mem_of_getElem? (i := 17) (by decide +kernel), List.mem_of_getElem? (i := 289) (by decide +kernel), List.mem_of_getElem? (i := 290) (by decide +kernel)⟩
theorem lw_p8 : lw_okq (⟨"RowsDrawn$Page", "firstWith", "(II)I"⟩, 16) := ⟨⟨by decide +kernel, by decide +kernel⟩, List.mem_of_getElem? (i := 301) (by decide +kernel), List.mem_of_getElem? (i := 323) (by decide +kernel), List.mem_of_getElem? (i := 324) (by decide +kernel)⟩
theorem lw_p9 : lw_okq (⟨"RowsDrawn", "ruleAt", "(I)LRowsDrawn$Rule;"⟩, 15) := ⟨⟨by decide +kernel, by decide +kernel⟩, List.mem_of_getElem? (i := 17) (by decide +kernel), List.mem_of_getElem? (i := 425) (by decide +kernel), List.mem_of_getElem? (i := 426) (by decide +kernel)⟩
theorem lw_p10 : lw_okq (⟨"RowsDrawn", "pageAt", "(I)LRowsDrawn$Page;"⟩, 15) := ⟨⟨by decide +kernel, by decide +kernel⟩, List.mem_of_getElem? (i := 17) (by decide +kernel), List.mem_of_getElem? (i := 437) (by decide +kernel), List.mem_of_getElem? (i := 438) (by decide +kernel)⟩
theorem lw_p11 : lw_okq (⟨"RowsDrawn$Page", "ledFrom", "(II)I"⟩, 16) := ⟨⟨by decide +kernel, by decide +kernel⟩, List.mem_of_getElem? (i := 301) (by decide +kernel), List.mem_of_getElem? (i := 466) (by decide +kernel), List.mem_of_getElem? (i := 467) (by decide +kernel)⟩
theorem lw_p12 : lw_okq (⟨"RowsDrawn$Page", "innerFrom", "(II)I"⟩, 16) := ⟨⟨by decide +kernel, by decide +kernel⟩, List.mem_of_getElem? (i := 301) (by decide +kernel), List.mem_of_getElem? (i := 470) (by decide +kernel), List.mem_of_getElem? (i := 471) (by decide +kernel)⟩
theorem lw_p13 : lw_okq (⟨"RowsDrawn$Page", "innerBehind", "(I)I"⟩, 16) := ⟨⟨by decide +kernel, by decide +kernel⟩, List.mem_of_getElem? (i := 301) (by decide +kernel), List.mem_of_getElem? (i := 477) (by decide +kernel), List.mem_of_getElem? (i := 478) (by decide +kernel)⟩
theorem lw_p14 : lw_okq (⟨"RowsDrawn", "refreshFitting", "()V"⟩, 15) := ⟨⟨by decide +kernel, by decide +kernel⟩, List.mem_of_getElem? (i := 17) (by decide +kernel), List.mem_of_getElem? (i := 514) (by decide +kernel), List.mem_of_getElem? (i := 515) (by decide +kernel)⟩
theorem lw_p15 : lw_okq (⟨"RowsDrawn$Fitting", "takeIn", "([LRowsDrawn$Page;II)V"⟩, 7) := ⟨⟨by decide +kernel, by decide +kernel⟩, List.mem_of_getElem? (i := 92) (by decide +kernel), List.mem_of_getElem? (i := 537) (by decide +kernel), List.mem_of_getElem? (i := 538) (by decide +kernel)⟩
def lw_privs_1 : List (MethodName × Nat) := [(⟨"RowsDrawn", "readSheet", "(LRowsDrawn$Reader;)I"⟩, 15), (⟨"RowsDrawn$PageReader", "takesKind", "(I)Z"⟩, 8), (⟨"RowsDrawn$PageReader", "takesDigit", "(I)Z"⟩, 8), (⟨"RowsDrawn$PageReader", "lastBoxGoesOn", "()Z"⟩, 8), (⟨"RowsDrawn$PageReader", "takesOpening", "()Z"⟩, 8), (⟨"RowsDrawn$PageReader", "takesClosing", "()Z"⟩, 8), (⟨"RowsDrawn$RuleReader", "takesStep", "(I)Z"⟩, 4), (⟨"RowsDrawn", "sheetIsRead", "(LRowsDrawn$Reader;)Z"⟩, 15), (⟨"RowsDrawn$Page", "firstWith", "(II)I"⟩, 16), (⟨"RowsDrawn", "ruleAt", "(I)LRowsDrawn$Rule;"⟩, 15), (⟨"RowsDrawn", "pageAt", "(I)LRowsDrawn$Page;"⟩, 15), (⟨"RowsDrawn$Page", "ledFrom", "(II)I"⟩, 16), (⟨"RowsDrawn$Page", "innerFrom", "(II)I"⟩, 16), (⟨"RowsDrawn$Page", "innerBehind", "(I)I"⟩, 16), (⟨"RowsDrawn", "refreshFitting", "()V"⟩, 15), (⟨"RowsDrawn$Fitting", "takeIn", "([LRowsDrawn$Page;II)V"⟩, 7)]
theorem lw_r1 : ∀ q ∈ lw_privs_1, lw_okq q := List.forall_mem_cons.mpr ⟨lw_p0, List.forall_mem_cons.mpr ⟨lw_p1, List.forall_mem_cons.mpr ⟨lw_p2, List.forall_mem_cons.mpr ⟨lw_p3, List.forall_mem_cons.mpr ⟨lw_p4, List.forall_mem_cons.mpr ⟨lw_p5, List.forall_mem_cons.mpr ⟨lw_p6, List.forall_mem_cons.mpr ⟨lw_p7, List.forall_mem_cons.mpr ⟨lw_p8, List.forall_mem_cons.mpr ⟨lw_p9, List.forall_mem_cons.mpr ⟨lw_p10, List.forall_mem_cons.mpr ⟨lw_p11, List.forall_mem_cons.mpr ⟨lw_p12, List.forall_mem_cons.mpr ⟨lw_p13, List.forall_mem_cons.mpr ⟨lw_p14, List.forall_mem_cons.mpr ⟨lw_p15, fun _ h => absurd h List.not_mem_nil⟩⟩⟩⟩⟩⟩⟩⟩⟩⟩⟩⟩⟩⟩⟩⟩
theorem lw_p16 : lw_okq (⟨"RowsDrawn$Fitting", "evenOf", "([LRowsDrawn$Page;II)I"⟩, 7) := ⟨⟨by decide +kernel, by decide +kernel⟩, List.mem_of_getElem? (i := 92) (by decide +kernel), List.mem_of_getElem? (i := 541) (by decide +kernel), List.mem_of_getElem? (i := 542) (by decide +kernel)⟩
theorem lw_p17 : lw_okq (⟨"RowsDrawn$Fitting", "bestToAsk", "([LRowsDrawn$Page;I)I"⟩, 7) := ⟨⟨by decide +kernel, by decide +kernel⟩, List.mem_of_getElem? (i := 92) (by decide +kernel), List.mem_of_getElem? (i := 553) (by decide +kernel), List.mem_of_getElem? (i := 554) (by decide +kernel)⟩
theorem lw_p18 : lw_okq (⟨"RowsDrawn", "lawAt", "(I)LRowsDrawn$Law;"⟩, 15) := ⟨⟨by decide +kernel, by decide +kernel⟩, List.mem_of_getElem? (i := 17) (by decide +kernel), List.mem_of_getElem? (i := 607) (by decide +kernel), List.mem_of_getElem? (i := 608) (by decide +kernel)⟩
theorem lw_p19 : lw_okq (⟨"RowsDrawn$Law", "isBetween", "(I)Z"⟩, 3) := ⟨⟨by decide +kernel, by decide +kernel⟩, List.mem_of_getElem? (i := 584) (by decide +kernel), List.mem_of_getElem? (i := 616) (by decide +kernel), List.mem_of_getElem? (i := 617) (by decide +kernel)⟩
theorem lw_p20 : lw_okq (⟨"RowsDrawn$Law", "wordsAreBetween", "(LRowsDrawn$Page;I)Z"⟩, 3) := ⟨⟨by decide +kernel, by decide +kernel⟩, List.mem_of_getElem? (i := 584) (by decide +kernel), List.mem_of_getElem? (i := 620) (by decide +kernel), List.mem_of_getElem? (i := 621) (by decide +kernel)⟩
theorem lw_p21 : lw_okq (⟨"RowsDrawn$Law", "isAsBefore", "(LRowsDrawn$Page;ILRowsDrawn$Page;I)Z"⟩, 3) := ⟨⟨by decide +kernel, by decide +kernel⟩, List.mem_of_getElem? (i := 584) (by decide +kernel), List.mem_of_getElem? (i := 629) (by decide +kernel), List.mem_of_getElem? (i := 630) (by decide +kernel)⟩
theorem lw_p22 : lw_okq (⟨"RowsDrawn$Pairing", "likeOfBoxes", "(LRowsDrawn$Page;ILRowsDrawn$Page;I)I"⟩, 2) := ⟨⟨by decide +kernel, by decide +kernel⟩, List.mem_of_getElem? (i := 149) (by decide +kernel), List.mem_of_getElem? (i := 668) (by decide +kernel), List.mem_of_getElem? (i := 669) (by decide +kernel)⟩
theorem lw_p23 : lw_okq (⟨"RowsDrawn$Pairing", "likeWithin", "(II)I"⟩, 2) := ⟨⟨by decide +kernel, by decide +kernel⟩, List.mem_of_getElem? (i := 149) (by decide +kernel), List.mem_of_getElem? (i := 672) (by decide +kernel), List.mem_of_getElem? (i := 673) (by decide +kernel)⟩
theorem lw_p24 : lw_okq (⟨"RowsDrawn$Pairing", "pairOneMore", "(II)I"⟩, 2) := ⟨⟨by decide +kernel, by decide +kernel⟩, List.mem_of_getElem? (i := 149) (by decide +kernel), List.mem_of_getElem? (i := 678) (by decide +kernel), List.mem_of_getElem? (i := 679) (by decide +kernel)⟩
theorem lw_p25 : lw_okq (⟨"RowsDrawn", "setOtherKeys", "(LRowsDrawn$Rule;LRowsDrawn$Rule;LRowsDrawn$Page;)V"⟩, 15) := ⟨⟨by decide +kernel, by decide +kernel⟩, List.mem_of_getElem? (i := 17) (by decide +kernel), List.mem_of_getElem? (i := 691) (by decide +kernel), List.mem_of_getElem? (i := 692) (by decide +kernel)⟩
theorem lw_p26 : lw_okq (⟨"RowsDrawn", "pairsUpTo", "(LRowsDrawn$Rule;LRowsDrawn$Rule;LRowsDrawn$Page;I)I"⟩, 15) := ⟨⟨by decide +kernel, by decide +kernel⟩, List.mem_of_getElem? (i := 17) (by decide +kernel), List.mem_of_getElem? (i := 701) (by decide +kernel), List.mem_of_getElem? (i := 702) (by decide +kernel)⟩
theorem lw_p27 : lw_okq (⟨"RowsDrawn", "countOnPages", "(I)I"⟩, 15) := ⟨⟨by decide +kernel, by decide +kernel⟩, List.mem_of_getElem? (i := 17) (by decide +kernel), List.mem_of_getElem? (i := 713) (by decide +kernel), List.mem_of_getElem? (i := 714) (by decide +kernel)⟩
theorem lw_p28 : lw_okq (⟨"RowsDrawn", "digestPage", "(JI)J"⟩, 15) := ⟨⟨by decide +kernel, by decide +kernel⟩, List.mem_of_getElem? (i := 17) (by decide +kernel), List.mem_of_getElem? (i := 722) (by decide +kernel), List.mem_of_getElem? (i := 723) (by decide +kernel)⟩
theorem lw_p29 : lw_okq (⟨"RowsDrawnModel", "faultOf", "(I)I"⟩, 38) := ⟨⟨by decide +kernel, by decide +kernel⟩, List.mem_of_getElem? (i := 731) (by decide +kernel), List.mem_of_getElem? (i := 869) (by decide +kernel), List.mem_of_getElem? (i := 870) (by decide +kernel)⟩
theorem lw_p30 : lw_okq (⟨"RowsDrawnModel", "goPage", "(I)Z"⟩, 38) := ⟨⟨by decide +kernel, by decide +kernel⟩, List.mem_of_getElem? (i := 731) (by decide +kernel), List.mem_of_getElem? (i := 873) (by decide +kernel), List.mem_of_getElem? (i := 874) (by decide +kernel)⟩
theorem lw_p31 : lw_okq (⟨"RowsDrawnModel", "beginBox", "(I)Z"⟩, 38) := ⟨⟨by decide +kernel, by decide +kernel⟩, List.mem_of_getElem? (i := 731) (by decide +kernel), List.mem_of_getElem? (i := 877) (by decide +kernel), List.mem_of_getElem? (i := 878) (by decide +kernel)⟩
def lw_privs_2 : List (MethodName × Nat) := [(⟨"RowsDrawn$Fitting", "evenOf", "([LRowsDrawn$Page;II)I"⟩, 7), (⟨"RowsDrawn$Fitting", "bestToAsk", "([LRowsDrawn$Page;I)I"⟩, 7), (⟨"RowsDrawn", "lawAt", "(I)LRowsDrawn$Law;"⟩, 15), (⟨"RowsDrawn$Law", "isBetween", "(I)Z"⟩, 3), (⟨"RowsDrawn$Law", "wordsAreBetween", "(LRowsDrawn$Page;I)Z"⟩, 3), (⟨"RowsDrawn$Law", "isAsBefore", "(LRowsDrawn$Page;ILRowsDrawn$Page;I)Z"⟩, 3), (⟨"RowsDrawn$Pairing", "likeOfBoxes", "(LRowsDrawn$Page;ILRowsDrawn$Page;I)I"⟩, 2), (⟨"RowsDrawn$Pairing", "likeWithin", "(II)I"⟩, 2), (⟨"RowsDrawn$Pairing", "pairOneMore", "(II)I"⟩, 2), (⟨"RowsDrawn", "setOtherKeys", "(LRowsDrawn$Rule;LRowsDrawn$Rule;LRowsDrawn$Page;)V"⟩, 15), (⟨"RowsDrawn", "pairsUpTo", "(LRowsDrawn$Rule;LRowsDrawn$Rule;LRowsDrawn$Page;I)I"⟩, 15), (⟨"RowsDrawn", "countOnPages", "(I)I"⟩, 15), (⟨"RowsDrawn", "digestPage", "(JI)J"⟩, 15), (⟨"RowsDrawnModel", "faultOf", "(I)I"⟩, 38), (⟨"RowsDrawnModel", "goPage", "(I)Z"⟩, 38), (⟨"RowsDrawnModel", "beginBox", "(I)Z"⟩, 38)]
theorem lw_r2 : ∀ q ∈ lw_privs_2, lw_okq q := List.forall_mem_cons.mpr ⟨lw_p16, List.forall_mem_cons.mpr ⟨lw_p17, List.forall_mem_cons.mpr ⟨lw_p18, List.forall_mem_cons.mpr ⟨lw_p19, List.forall_mem_cons.mpr ⟨lw_p20, List.forall_mem_cons.mpr ⟨lw_p21, List.forall_mem_cons.mpr ⟨lw_p22, List.forall_mem_cons.mpr ⟨lw_p23, List.forall_mem_cons.mpr ⟨lw_p24, List.forall_mem_cons.mpr ⟨lw_p25, List.forall_mem_cons.mpr ⟨lw_p26, List.forall_mem_cons.mpr ⟨lw_p27, List.forall_mem_cons.mpr ⟨lw_p28, List.forall_mem_cons.mpr ⟨lw_p29, List.forall_mem_cons.mpr ⟨lw_p30, List.forall_mem_cons.mpr ⟨lw_p31, fun _ h => absurd h List.not_mem_nil⟩⟩⟩⟩⟩⟩⟩⟩⟩⟩⟩⟩⟩⟩⟩⟩
theorem lw_p32 : lw_okq (⟨"RowsDrawnModel", "goRule", "(I)Z"⟩, 38) := ⟨⟨by decide +kernel, by decide +kernel⟩, List.mem_of_getElem? (i := 731) (by decide +kernel), List.mem_of_getElem? (i := 885) (by decide +kernel), List.mem_of_getElem? (i := 886) (by decide +kernel)⟩
theorem lw_p33 : lw_okq (⟨"RowsDrawnModel", "addStep", "(I)V"⟩, 38) := ⟨⟨by decide +kernel, by decide +kernel⟩, List.mem_of_getElem? (i := 731) (by decide +kernel), List.mem_of_getElem? (i := 889) (by decide +kernel), List.mem_of_getElem? (i := 890) (by decide +kernel)⟩
theorem lw_p34 : lw_okq (⟨"RowsDrawnModel", "isRule", "(I)Z"⟩, 38) := ⟨⟨by decide +kernel, by decide +kernel⟩, List.mem_of_getElem? (i := 731) (by decide +kernel), List.mem_of_getElem? (i := 906) (by decide +kernel), List.mem_of_getElem? (i := 907) (by decide +kernel)⟩
theorem lw_p35 : lw_okq (⟨"RowsDrawnModel", "isBox", "(II)Z"⟩, 38) := ⟨⟨by decide +kernel, by decide +kernel⟩, List.mem_of_getElem? (i := 731) (by decide +kernel), List.mem_of_getElem? (i := 914) (by decide +kernel), List.mem_of_getElem? (i := 915) (by decide +kernel)⟩
theorem lw_p36 : lw_okq (⟨"RowsDrawnModel", "isPage", "(I)Z"⟩, 38) := ⟨⟨by decide +kernel, by decide +kernel⟩, List.mem_of_getElem? (i := 731) (by decide +kernel), List.mem_of_getElem? (i := 918) (by decide +kernel), List.mem_of_getElem? (i := 919) (by decide +kernel)⟩
theorem lw_p37 : lw_okq (⟨"RowsDrawnModel", "boxOf", "(III)I"⟩, 38) := ⟨⟨by decide +kernel, by decide +kernel⟩, List.mem_of_getElem? (i := 731) (by decide +kernel), List.mem_of_getElem? (i := 922) (by decide +kernel), List.mem_of_getElem? (i := 923) (by decide +kernel)⟩
theorem lw_p38 : lw_okq (⟨"RowsDrawnModel", "innerMany", "(II)I"⟩, 38) := ⟨⟨by decide +kernel, by decide +kernel⟩, List.mem_of_getElem? (i := 731) (by decide +kernel), List.mem_of_getElem? (i := 926) (by decide +kernel), List.mem_of_getElem? (i := 927) (by decide +kernel)⟩
theorem lw_p39 : lw_okq (⟨"RowsDrawnModel", "depth", "(II)I"⟩, 38) := ⟨⟨by decide +kernel, by decide +kernel⟩, List.mem_of_getElem? (i := 731) (by decide +kernel), List.mem_of_getElem? (i := 930) (by decide +kernel), List.mem_of_getElem? (i := 931) (by decide +kernel)⟩
theorem lw_p40 : lw_okq (⟨"RowsDrawnModel", "given", "(II)I"⟩, 38) := ⟨⟨by decide +kernel, by decide +kernel⟩, List.mem_of_getElem? (i := 731) (by decide +kernel), List.mem_of_getElem? (i := 938) (by decide +kernel), List.mem_of_getElem? (i := 939) (by decide +kernel)⟩
theorem lw_p41 : lw_okq (⟨"RowsDrawnModel", "givenFrom", "(III)I"⟩, 38) := ⟨⟨by decide +kernel, by decide +kernel⟩, List.mem_of_getElem? (i := 731) (by decide +kernel), List.mem_of_getElem? (i := 942) (by decide +kernel), List.mem_of_getElem? (i := 943) (by decide +kernel)⟩
theorem lw_p42 : lw_okq (⟨"RowsDrawnModel", "led", "(III)I"⟩, 38) := ⟨⟨by decide +kernel, by decide +kernel⟩, List.mem_of_getElem? (i := 731) (by decide +kernel), List.mem_of_getElem? (i := 946) (by decide +kernel), List.mem_of_getElem? (i := 947) (by decide +kernel)⟩
theorem lw_p43 : lw_okq (⟨"RowsDrawnModel", "placeIn", "(II)I"⟩, 38) := ⟨⟨by decide +kernel, by decide +kernel⟩, List.mem_of_getElem? (i := 731) (by decide +kernel), List.mem_of_getElem? (i := 953) (by decide +kernel), List.mem_of_getElem? (i := 954) (by decide +kernel)⟩
theorem lw_p44 : lw_okq (⟨"RowsDrawnModel", "aheadOf", "(II)I"⟩, 38) := ⟨⟨by decide +kernel, by decide +kernel⟩, List.mem_of_getElem? (i := 731) (by decide +kernel), List.mem_of_getElem? (i := 957) (by decide +kernel), List.mem_of_getElem? (i := 958) (by decide +kernel)⟩
theorem lw_p45 : lw_okq (⟨"RowsDrawnModel", "chosen", "(I)I"⟩, 38) := ⟨⟨by decide +kernel, by decide +kernel⟩, List.mem_of_getElem? (i := 731) (by decide +kernel), List.mem_of_getElem? (i := 986) (by decide +kernel), List.mem_of_getElem? (i := 987) (by decide +kernel)⟩
theorem lw_p46 : lw_okq (⟨"RowsDrawnModel", "findFits", "()V"⟩, 38) := ⟨⟨by decide +kernel, by decide +kernel⟩, List.mem_of_getElem? (i := 731) (by decide +kernel), List.mem_of_getElem? (i := 990) (by decide +kernel), List.mem_of_getElem? (i := 991) (by decide +kernel)⟩
theorem lw_p47 : lw_okq (⟨"RowsDrawnModel", "layLeads", "(I)V"⟩, 38) := ⟨⟨by decide +kernel, by decide +kernel⟩, List.mem_of_getElem? (i := 731) (by decide +kernel), List.mem_of_getElem? (i := 994) (by decide +kernel), List.mem_of_getElem? (i := 995) (by decide +kernel)⟩
def lw_privs_3 : List (MethodName × Nat) := [(⟨"RowsDrawnModel", "goRule", "(I)Z"⟩, 38), (⟨"RowsDrawnModel", "addStep", "(I)V"⟩, 38), (⟨"RowsDrawnModel", "isRule", "(I)Z"⟩, 38), (⟨"RowsDrawnModel", "isBox", "(II)Z"⟩, 38), (⟨"RowsDrawnModel", "isPage", "(I)Z"⟩, 38), (⟨"RowsDrawnModel", "boxOf", "(III)I"⟩, 38), (⟨"RowsDrawnModel", "innerMany", "(II)I"⟩, 38), (⟨"RowsDrawnModel", "depth", "(II)I"⟩, 38), (⟨"RowsDrawnModel", "given", "(II)I"⟩, 38), (⟨"RowsDrawnModel", "givenFrom", "(III)I"⟩, 38), (⟨"RowsDrawnModel", "led", "(III)I"⟩, 38), (⟨"RowsDrawnModel", "placeIn", "(II)I"⟩, 38), (⟨"RowsDrawnModel", "aheadOf", "(II)I"⟩, 38), (⟨"RowsDrawnModel", "chosen", "(I)I"⟩, 38), (⟨"RowsDrawnModel", "findFits", "()V"⟩, 38), (⟨"RowsDrawnModel", "layLeads", "(I)V"⟩, 38)]
theorem lw_r3 : ∀ q ∈ lw_privs_3, lw_okq q := List.forall_mem_cons.mpr ⟨lw_p32, List.forall_mem_cons.mpr ⟨lw_p33, List.forall_mem_cons.mpr ⟨lw_p34, List.forall_mem_cons.mpr ⟨lw_p35, List.forall_mem_cons.mpr ⟨lw_p36, List.forall_mem_cons.mpr ⟨lw_p37, List.forall_mem_cons.mpr ⟨lw_p38, List.forall_mem_cons.mpr ⟨lw_p39, List.forall_mem_cons.mpr ⟨lw_p40, List.forall_mem_cons.mpr ⟨lw_p41, List.forall_mem_cons.mpr ⟨lw_p42, List.forall_mem_cons.mpr ⟨lw_p43, List.forall_mem_cons.mpr ⟨lw_p44, List.forall_mem_cons.mpr ⟨lw_p45, List.forall_mem_cons.mpr ⟨lw_p46, List.forall_mem_cons.mpr ⟨lw_p47, fun _ h => absurd h List.not_mem_nil⟩⟩⟩⟩⟩⟩⟩⟩⟩⟩⟩⟩⟩⟩⟩⟩
theorem lw_p48 : lw_okq (⟨"RowsDrawnModel", "marked", "(II)I"⟩, 38) := ⟨⟨by decide +kernel, by decide +kernel⟩, List.mem_of_getElem? (i := 731) (by decide +kernel), List.mem_of_getElem? (i := 1001) (by decide +kernel), List.mem_of_getElem? (i := 1002) (by decide +kernel)⟩
theorem lw_p49 : lw_okq (⟨"RowsDrawnModel", "leadsOn", "(I)I"⟩, 38) := ⟨⟨by decide +kernel, by decide +kernel⟩, List.mem_of_getElem? (i := 731) (by decide +kernel), List.mem_of_getElem? (i := 1005) (by decide +kernel), List.mem_of_getElem? (i := 1006) (by decide +kernel)⟩
theorem lw_p50 : lw_okq (⟨"RowsDrawnModel", "findEvens", "()V"⟩, 38) := ⟨⟨by decide +kernel, by decide +kernel⟩, List.mem_of_getElem? (i := 731) (by decide +kernel), List.mem_of_getElem? (i := 1015) (by decide +kernel), List.mem_of_getElem? (i := 1016) (by decide +kernel)⟩
theorem lw_p51 : lw_okq (⟨"RowsDrawnModel", "countLeads", "(I)V"⟩, 38) := ⟨⟨by decide +kernel, by decide +kernel⟩, List.mem_of_getElem? (i := 731) (by decide +kernel), List.mem_of_getElem? (i := 1030) (by decide +kernel), List.mem_of_getElem? (i := 1031) (by decide +kernel)⟩
theorem lw_p52 : lw_okq (⟨"RowsDrawnModel", "holdsLaw", "(III)Z"⟩, 38) := ⟨⟨by decide +kernel, by decide +kernel⟩, List.mem_of_getElem? (i := 731) (by decide +kernel), List.mem_of_getElem? (i := 1047) (by decide +kernel), List.mem_of_getElem? (i := 1048) (by decide +kernel)⟩
theorem lw_p53 : lw_okq (⟨"RowsDrawnModel", "holdsAsBefore", "(III)Z"⟩, 38) := ⟨⟨by decide +kernel, by decide +kernel⟩, List.mem_of_getElem? (i := 731) (by decide +kernel), List.mem_of_getElem? (i := 1051) (by decide +kernel), List.mem_of_getElem? (i := 1052) (by decide +kernel)⟩
theorem lw_p54 : lw_okq (⟨"RowsDrawnModel", "countWords", "(II)V"⟩, 38) := ⟨⟨by decide +kernel, by decide +kernel⟩, List.mem_of_getElem? (i := 731) (by decide +kernel), List.mem_of_getElem? (i := 1055) (by decide +kernel), List.mem_of_getElem? (i := 1056) (by decide +kernel)⟩
theorem lw_p55 : lw_okq (⟨"RowsDrawnModel", "brokenOf", "(II)I"⟩, 38) := ⟨⟨by decide +kernel, by decide +kernel⟩, List.mem_of_getElem? (i := 731) (by decide +kernel), List.mem_of_getElem? (i := 1063) (by decide +kernel), List.mem_of_getElem? (i := 1064) (by decide +kernel)⟩
theorem lw_p56 : lw_okq (⟨"RowsDrawnModel", "likeness", "(II)I"⟩, 38) := ⟨⟨by decide +kernel, by decide +kernel⟩, List.mem_of_getElem? (i := 731) (by decide +kernel), List.mem_of_getElem? (i := 1073) (by decide +kernel), List.mem_of_getElem? (i := 1074) (by decide +kernel)⟩
theorem lw_p57 : lw_okq (⟨"RowsDrawnModel", "likeOf", "(II)I"⟩, 38) := ⟨⟨by decide +kernel, by decide +kernel⟩, List.mem_of_getElem? (i := 731) (by decide +kernel), List.mem_of_getElem? (i := 1081) (by decide +kernel), List.mem_of_getElem? (i := 1082) (by decide +kernel)⟩
theorem lw_p58 : lw_okq (⟨"RowsDrawnModel", "pairBest", "(IIII)I"⟩, 38) := ⟨⟨by decide +kernel, by decide +kernel⟩, List.mem_of_getElem? (i := 731) (by decide +kernel), List.mem_of_getElem? (i := 1085) (by decide +kernel), List.mem_of_getElem? (i := 1086) (by decide +kernel)⟩
theorem lw_p59 : lw_okq (⟨"RowsDrawnModel", "innerOf", "(II[I)I"⟩, 38) := ⟨⟨by decide +kernel, by decide +kernel⟩, List.mem_of_getElem? (i := 731) (by decide +kernel), List.mem_of_getElem? (i := 1089) (by decide +kernel), List.mem_of_getElem? (i := 1090) (by decide +kernel)⟩
theorem lw_p60 : lw_okq (⟨"RowsDrawnModel", "firstWord", "(III)I"⟩, 38) := ⟨⟨by decide +kernel, by decide +kernel⟩, List.mem_of_getElem? (i := 731) (by decide +kernel), List.mem_of_getElem? (i := 1102) (by decide +kernel), List.mem_of_getElem? (i := 1103) (by decide +kernel)⟩
theorem lw_p61 : lw_okq (⟨"RowsDrawnModel", "countOf", "(I)I"⟩, 38) := ⟨⟨by decide +kernel, by decide +kernel⟩, List.mem_of_getElem? (i := 731) (by decide +kernel), List.mem_of_getElem? (i := 1114) (by decide +kernel), List.mem_of_getElem? (i := 1115) (by decide +kernel)⟩
theorem lw_p62 : lw_okq (⟨"RowsDrawnModel", "tell", "(J)V"⟩, 38) := ⟨⟨by decide +kernel, by decide +kernel⟩, List.mem_of_getElem? (i := 731) (by decide +kernel), List.mem_of_getElem? (i := 1123) (by decide +kernel), List.mem_of_getElem? (i := 1124) (by decide +kernel)⟩
def lw_privs_4 : List (MethodName × Nat) := [(⟨"RowsDrawnModel", "marked", "(II)I"⟩, 38), (⟨"RowsDrawnModel", "leadsOn", "(I)I"⟩, 38), (⟨"RowsDrawnModel", "findEvens", "()V"⟩, 38), (⟨"RowsDrawnModel", "countLeads", "(I)V"⟩, 38), (⟨"RowsDrawnModel", "holdsLaw", "(III)Z"⟩, 38), (⟨"RowsDrawnModel", "holdsAsBefore", "(III)Z"⟩, 38), (⟨"RowsDrawnModel", "countWords", "(II)V"⟩, 38), (⟨"RowsDrawnModel", "brokenOf", "(II)I"⟩, 38), (⟨"RowsDrawnModel", "likeness", "(II)I"⟩, 38), (⟨"RowsDrawnModel", "likeOf", "(II)I"⟩, 38), (⟨"RowsDrawnModel", "pairBest", "(IIII)I"⟩, 38), (⟨"RowsDrawnModel", "innerOf", "(II[I)I"⟩, 38), (⟨"RowsDrawnModel", "firstWord", "(III)I"⟩, 38), (⟨"RowsDrawnModel", "countOf", "(I)I"⟩, 38), (⟨"RowsDrawnModel", "tell", "(J)V"⟩, 38)]
theorem lw_r4 : ∀ q ∈ lw_privs_4, lw_okq q := List.forall_mem_cons.mpr ⟨lw_p48, List.forall_mem_cons.mpr ⟨lw_p49, List.forall_mem_cons.mpr ⟨lw_p50, List.forall_mem_cons.mpr ⟨lw_p51, List.forall_mem_cons.mpr ⟨lw_p52, List.forall_mem_cons.mpr ⟨lw_p53, List.forall_mem_cons.mpr ⟨lw_p54, List.forall_mem_cons.mpr ⟨lw_p55, List.forall_mem_cons.mpr ⟨lw_p56, List.forall_mem_cons.mpr ⟨lw_p57, List.forall_mem_cons.mpr ⟨lw_p58, List.forall_mem_cons.mpr ⟨lw_p59, List.forall_mem_cons.mpr ⟨lw_p60, List.forall_mem_cons.mpr ⟨lw_p61, List.forall_mem_cons.mpr ⟨lw_p62, fun _ h => absurd h List.not_mem_nil⟩⟩⟩⟩⟩⟩⟩⟩⟩⟩⟩⟩⟩⟩⟩
def lw_privs : List (MethodName × Nat) := lw_privs_1 ++ (lw_privs_2 ++ (lw_privs_3 ++ (lw_privs_4)))
def lw_tbl : List Cond := k2_sels lw_privs ++ tables_1
theorem lw_privs_ok : ∀ q ∈ lw_privs, lw_okq q := by
  show ∀ q ∈ lw_privs_1 ++ (lw_privs_2 ++ (lw_privs_3 ++ (lw_privs_4))), lw_okq q
  exact List.forall_mem_append.mpr ⟨lw_r1, List.forall_mem_append.mpr ⟨lw_r2, List.forall_mem_append.mpr ⟨lw_r3, lw_r4⟩⟩⟩
end
section
theorem goodIn_r {big : List Cond} (ws : List Cond) (ps : List Nat) (hp : ws = ps.filterMap (fun i => big[i]?)) (h : ws.all goodWord = true) : GoodIn big ws := by
  intro w hw
  have h1 := List.all_eq_true.mp h w hw
  rw [hp] at hw
  obtain ⟨i, -, hi⟩ := List.mem_filterMap.mp hw
  have hm : w ∈ big := by first | exact List.mem_of_getElem? hi | exact List.getElem?_mem hi
  exact ⟨hm, good_of_word h1⟩
theorem goodIn_app {big a b : List Cond} (ha : GoodIn big a) (hb : GoodIn big b) : GoodIn big (a ++ b) := fun w h => (List.mem_append.mp h).elim (ha w) (hb w)
theorem goodIn_ca {big a b : List Cond} {c : Cond} (ha : GoodIn big (c :: a)) (hb : GoodIn big b) : GoodIn big (c :: (a ++ b)) := fun w h => (List.mem_cons.mp h).elim (fun e => ha w (List.mem_cons.mpr (Or.inl e))) (fun h => (List.mem_append.mp h).elim (fun h => ha w (List.mem_cons.mpr (Or.inr h))) (hb w))
theorem goodIn_sub {big ws : List Cond} (hm : ∀ w ∈ ws, w ∈ big) (h : ws.all goodWord = true) : GoodIn big ws := fun w hw => ⟨hm w hw, good_of_word (List.all_eq_true.mp h w hw)⟩
def RX0 : String := "RowsDrawn$Fitting"
def TX0 : u_T := fun k => match k with
  | 0 => ("RowsDrawn$Fitting", "many", "I", false)
  | 1 => ("RowsDrawn$Fitting", "least", "I", false)
  | 2 => ("RowsDrawn$Fitting", "likeliest", "I", false)
  | 3 => ("RowsDrawn$Fitting", "even", "I", false)
  | 4 => ("RowsDrawn$Fitting", "asked", "I", false)
  | 5 => ("RowsDrawn$Fitting", "leading", "[I", true)
  | _ => ("RowsDrawn$Fitting", "tally", "[I", true)
def tyX0 : Nat → FieldType := fun k => match k with
  | 0 => .int
  | 1 => .int
  | 2 => .int
  | 3 => .int
  | 4 => .int
  | 5 => .array .int
  | _ => .array .int
abbrev wsX00 : List Cond := u_ws RX0 TX0 7
theorem nmX0 : ∀ a, a < 7 → ∀ b, b < 7 → a ≠ b → (TX0 a).2.1 ≠ (TX0 b).2.1 := by decide +kernel
theorem tyX0_ok : ∀ k, k < 7 → parseFieldDescriptor (TX0 k).2.2.1 = some (tyX0 k) := by decide +kernel
abbrev cX0_init : ByteArray := prog_2_method_1_code
def yX0_init : MethodName := ⟨RX0, "<init>", "()V"⟩
abbrev cX0_workOut : ByteArray := prog_2_method_2_code
def yX0_workOut : MethodName := ⟨RX0, "workOut", "([LRowsDrawn$Page;I)V"⟩
abbrev cX0_isFit : ByteArray := prog_2_method_3_code
def yX0_isFit : MethodName := ⟨RX0, "isFit", "([LRowsDrawn$Page;II)Z"⟩
abbrev cX0_takeIn : ByteArray := prog_2_method_4_code
def yX0_takeIn : MethodName := ⟨RX0, "takeIn", "([LRowsDrawn$Page;II)V"⟩
abbrev cX0_evenOf : ByteArray := prog_2_method_5_code
def yX0_evenOf : MethodName := ⟨RX0, "evenOf", "([LRowsDrawn$Page;II)I"⟩
abbrev cX0_greaterPart : ByteArray := prog_2_method_6_code
def yX0_greaterPart : MethodName := ⟨RX0, "greaterPart", "(I)I"⟩
abbrev cX0_bestToAsk : ByteArray := prog_2_method_7_code
def yX0_bestToAsk : MethodName := ⟨RX0, "bestToAsk", "([LRowsDrawn$Page;I)I"⟩
def RX1 : String := "RowsDrawn$Law"
def TX1 : u_T := fun k => match k with
  | 0 => ("RowsDrawn$Law", "form", "I", true)
  | 1 => ("RowsDrawn$Law", "x", "I", true)
  | _ => ("RowsDrawn$Law", "y", "I", true)
def tyX1 : Nat → FieldType := fun k => match k with
  | 0 => .int
  | 1 => .int
  | _ => .int
abbrev wsX10 : List Cond := u_ws RX1 TX1 3
theorem nmX1 : ∀ a, a < 3 → ∀ b, b < 3 → a ≠ b → (TX1 a).2.1 ≠ (TX1 b).2.1 := by decide +kernel
theorem tyX1_ok : ∀ k, k < 3 → parseFieldDescriptor (TX1 k).2.2.1 = some (tyX1 k) := by decide +kernel
abbrev cX1_init : ByteArray := prog_3_method_1_code
def yX1_init : MethodName := ⟨RX1, "<init>", "(III)V"⟩
abbrev cX1_isKept : ByteArray := prog_3_method_2_code
def yX1_isKept : MethodName := ⟨RX1, "isKept", "(LRowsDrawn$Page;ILRowsDrawn$Page;I)Z"⟩
abbrev cX1_isBetween : ByteArray := prog_3_method_3_code
def yX1_isBetween : MethodName := ⟨RX1, "isBetween", "(I)Z"⟩
abbrev cX1_wordsAreBetween : ByteArray := prog_3_method_4_code
def yX1_wordsAreBetween : MethodName := ⟨RX1, "wordsAreBetween", "(LRowsDrawn$Page;I)Z"⟩
abbrev cX1_isAsBefore : ByteArray := prog_3_method_5_code
def yX1_isAsBefore : MethodName := ⟨RX1, "isAsBefore", "(LRowsDrawn$Page;ILRowsDrawn$Page;I)Z"⟩
def RX2 : String := "RowsDrawn$Mending"
def TX2 : u_T := fun k => match k with
  | 0 => ("RowsDrawn$Mending", "sentence", "I", false)
  | 1 => ("RowsDrawn$Mending", "likeness", "I", false)
  | 2 => ("RowsDrawn$Mending", "leadsTo", "I", false)
  | _ => ("RowsDrawn$Mending", "sure", "Z", false)
def tyX2 : Nat → FieldType := fun k => match k with
  | 0 => .int
  | 1 => .int
  | 2 => .int
  | _ => .boolean
abbrev wsX20 : List Cond := u_ws RX2 TX2 4
theorem nmX2 : ∀ a, a < 4 → ∀ b, b < 4 → a ≠ b → (TX2 a).2.1 ≠ (TX2 b).2.1 := by decide +kernel
theorem tyX2_ok : ∀ k, k < 4 → parseFieldDescriptor (TX2 k).2.2.1 = some (tyX2 k) := by decide +kernel
abbrev cX2_init : ByteArray := prog_4_method_1_code
def yX2_init : MethodName := ⟨RX2, "<init>", "()V"⟩
abbrev cX2_workOut : ByteArray := prog_4_method_2_code
def yX2_workOut : MethodName := ⟨RX2, "workOut", "(LRowsDrawn$Page;I)V"⟩
abbrev cX2_likenessOf : ByteArray := prog_4_method_3_code
def yX2_likenessOf : MethodName := ⟨RX2, "likenessOf", "(LRowsDrawn$Page;II)I"⟩
def RX3 : String := "RowsDrawn$Page"
def TX3 : u_T := fun k => match k with
  | 0 => ("RowsDrawn$Page", "size", "I", true)
  | 1 => ("RowsDrawn$Page", "kinds", "[I", true)
  | 2 => ("RowsDrawn$Page", "words", "[I", true)
  | 3 => ("RowsDrawn$Page", "parents", "[I", true)
  | 4 => ("RowsDrawn$Page", "depths", "[I", true)
  | 5 => ("RowsDrawn$Page", "inner", "[I", true)
  | 6 => ("RowsDrawn$Page", "deeper", "[I", true)
  | 7 => ("RowsDrawn$Page", "firstAlike", "[I", true)
  | 8 => ("RowsDrawn$Page", "ofKind", "[I", true)
  | 9 => ("RowsDrawn$Page", "worded", "I", true)
  | 10 => ("RowsDrawn$Page", "holders", "I", true)
  | 11 => ("RowsDrawn$Page", "yes", "I", false)
  | 12 => ("RowsDrawn$Page", "no", "I", false)
  | 13 => ("RowsDrawn$Page", "isWhole", "Z", false)
  | 14 => ("RowsDrawn$Page", "sentenceSets", "[I", true)
  | _ => ("RowsDrawn$Page", "sentencesDrawn", "Z", false)
def tyX3 : Nat → FieldType := fun k => match k with
  | 0 => .int
  | 1 => .array .int
  | 2 => .array .int
  | 3 => .array .int
  | 4 => .array .int
  | 5 => .array .int
  | 6 => .array .int
  | 7 => .array .int
  | 8 => .array .int
  | 9 => .int
  | 10 => .int
  | 11 => .int
  | 12 => .int
  | 13 => .boolean
  | 14 => .array .int
  | _ => .boolean
abbrev wsX30 : List Cond := u_ws RX3 TX3 16
theorem nmX3 : ∀ a, a < 16 → ∀ b, b < 16 → a ≠ b → (TX3 a).2.1 ≠ (TX3 b).2.1 := by decide +kernel
theorem tyX3_ok : ∀ k, k < 16 → parseFieldDescriptor (TX3 k).2.2.1 = some (tyX3 k) := by decide +kernel
abbrev cX3_init : ByteArray := prog_5_method_1_code
def yX3_init : MethodName := ⟨RX3, "<init>", "(LRowsDrawn$PageReader;)V"⟩
abbrev cX3_firstWith : ByteArray := prog_5_method_2_code
def yX3_firstWith : MethodName := ⟨RX3, "firstWith", "(II)I"⟩
abbrev cX3_has : ByteArray := prog_5_method_3_code
def yX3_has : MethodName := ⟨RX3, "has", "(I)Z"⟩
abbrev cX3_markOf : ByteArray := prog_5_method_4_code
def yX3_markOf : MethodName := ⟨RX3, "markOf", "(I)I"⟩
abbrev cX3_setMark : ByteArray := prog_5_method_5_code
def yX3_setMark : MethodName := ⟨RX3, "setMark", "(II)V"⟩
abbrev cX3_isUnmarked : ByteArray := prog_5_method_6_code
def yX3_isUnmarked : MethodName := ⟨RX3, "isUnmarked", "()Z"⟩
abbrev cX3_isMet : ByteArray := prog_5_method_7_code
def yX3_isMet : MethodName := ⟨RX3, "isMet", "(I)Z"⟩
abbrev cX3_led : ByteArray := prog_5_method_8_code
def yX3_led : MethodName := ⟨RX3, "led", "(II)I"⟩
abbrev cX3_ledFrom : ByteArray := prog_5_method_9_code
def yX3_ledFrom : MethodName := ⟨RX3, "ledFrom", "(II)I"⟩
abbrev cX3_innerFrom : ByteArray := prog_5_method_10_code
def yX3_innerFrom : MethodName := ⟨RX3, "innerFrom", "(II)I"⟩
abbrev cX3_innerBehind : ByteArray := prog_5_method_11_code
def yX3_innerBehind : MethodName := ⟨RX3, "innerBehind", "(I)I"⟩
abbrev cX3_drawSentences : ByteArray := prog_5_method_12_code
def yX3_drawSentences : MethodName := ⟨RX3, "drawSentences", "()V"⟩
abbrev cX3_unlikeWords : ByteArray := prog_5_method_13_code
def yX3_unlikeWords : MethodName := ⟨RX3, "unlikeWords", "(I)I"⟩
abbrev cX3_hasWord : ByteArray := prog_5_method_14_code
def yX3_hasWord : MethodName := ⟨RX3, "hasWord", "(II)Z"⟩
abbrev cX3_sharedWords : ByteArray := prog_5_method_15_code
def yX3_sharedWords : MethodName := ⟨RX3, "sharedWords", "(ILRowsDrawn$Page;I)I"⟩
def RX4 : String := "RowsDrawn$PageReader"
def TX4 : u_T := fun k => match k with
  | 0 => ("RowsDrawn$PageReader", "kinds", "[I", true)
  | 1 => ("RowsDrawn$PageReader", "words", "[I", true)
  | 2 => ("RowsDrawn$PageReader", "parents", "[I", true)
  | 3 => ("RowsDrawn$PageReader", "size", "I", false)
  | 4 => ("RowsDrawn$PageReader", "open", "I", false)
  | 5 => ("RowsDrawn$PageReader", "digits", "I", false)
  | 6 => ("RowsDrawn$PageReader", "behindOpening", "Z", false)
  | _ => ("RowsDrawn$PageReader", "behindClosing", "Z", false)
def tyX4 : Nat → FieldType := fun k => match k with
  | 0 => .array .int
  | 1 => .array .int
  | 2 => .array .int
  | 3 => .int
  | 4 => .int
  | 5 => .int
  | 6 => .boolean
  | _ => .boolean
abbrev wsX40 : List Cond := u_ws RX4 TX4 8
theorem nmX4 : ∀ a, a < 8 → ∀ b, b < 8 → a ≠ b → (TX4 a).2.1 ≠ (TX4 b).2.1 := by decide +kernel
theorem tyX4_ok : ∀ k, k < 8 → parseFieldDescriptor (TX4 k).2.2.1 = some (tyX4 k) := by decide +kernel
abbrev cX4_init : ByteArray := prog_6_method_1_code
def yX4_init : MethodName := ⟨RX4, "<init>", "()V"⟩
abbrev cX4_restart : ByteArray := prog_6_method_2_code
def yX4_restart : MethodName := ⟨RX4, "restart", "()V"⟩
abbrev cX4_atEnd : ByteArray := prog_6_method_3_code
def yX4_atEnd : MethodName := ⟨RX4, "atEnd", "()Z"⟩
abbrev cX4_takes : ByteArray := prog_6_method_4_code
def yX4_takes : MethodName := ⟨RX4, "takes", "(I)Z"⟩
abbrev cX4_takesKind : ByteArray := prog_6_method_5_code
def yX4_takesKind : MethodName := ⟨RX4, "takesKind", "(I)Z"⟩
abbrev cX4_lastBoxGoesOn : ByteArray := prog_6_method_6_code
def yX4_lastBoxGoesOn : MethodName := ⟨RX4, "lastBoxGoesOn", "()Z"⟩
abbrev cX4_takesDigit : ByteArray := prog_6_method_7_code
def yX4_takesDigit : MethodName := ⟨RX4, "takesDigit", "(I)Z"⟩
abbrev cX4_takesOpening : ByteArray := prog_6_method_8_code
def yX4_takesOpening : MethodName := ⟨RX4, "takesOpening", "()Z"⟩
abbrev cX4_takesClosing : ByteArray := prog_6_method_9_code
def yX4_takesClosing : MethodName := ⟨RX4, "takesClosing", "()Z"⟩
def RX5 : String := "RowsDrawn$Pairing"
def TX5 : u_T := fun k => match k with
  | 0 => ("RowsDrawn$Pairing", "likes", "[I", true)
  | _ => ("RowsDrawn$Pairing", "best", "[I", true)
def tyX5 : Nat → FieldType := fun k => match k with
  | 0 => .array .int
  | _ => .array .int
abbrev wsX50 : List Cond := u_ws RX5 TX5 2
theorem nmX5 : ∀ a, a < 2 → ∀ b, b < 2 → a ≠ b → (TX5 a).2.1 ≠ (TX5 b).2.1 := by decide +kernel
theorem tyX5_ok : ∀ k, k < 2 → parseFieldDescriptor (TX5 k).2.2.1 = some (tyX5 k) := by decide +kernel
abbrev cX5_init : ByteArray := prog_7_method_1_code
def yX5_init : MethodName := ⟨RX5, "<init>", "()V"⟩
abbrev cX5_likeOf : ByteArray := prog_7_method_2_code
def yX5_likeOf : MethodName := ⟨RX5, "likeOf", "(LRowsDrawn$Page;LRowsDrawn$Page;)I"⟩
abbrev cX5_likeOfBoxes : ByteArray := prog_7_method_3_code
def yX5_likeOfBoxes : MethodName := ⟨RX5, "likeOfBoxes", "(LRowsDrawn$Page;ILRowsDrawn$Page;I)I"⟩
abbrev cX5_likeWithin : ByteArray := prog_7_method_4_code
def yX5_likeWithin : MethodName := ⟨RX5, "likeWithin", "(II)I"⟩
abbrev cX5_pairOneMore : ByteArray := prog_7_method_5_code
def yX5_pairOneMore : MethodName := ⟨RX5, "pairOneMore", "(II)I"⟩
def RX6 : String := "RowsDrawn$Reader"
def TX6 : u_T := fun k => match k with
  | _ => ("", "", "", false)
def tyX6 : Nat → FieldType := fun k => match k with
  | _ => .int
abbrev wsX60 : List Cond := u_ws RX6 TX6 0
theorem nmX6 : ∀ a, a < 0 → ∀ b, b < 0 → a ≠ b → (TX6 a).2.1 ≠ (TX6 b).2.1 := by decide +kernel
theorem tyX6_ok : ∀ k, k < 0 → parseFieldDescriptor (TX6 k).2.2.1 = some (tyX6 k) := by decide +kernel
abbrev cX6_init : ByteArray := prog_8_method_1_code
def yX6_init : MethodName := ⟨RX6, "<init>", "()V"⟩
abbrev cX6_isKind : ByteArray := prog_8_method_5_code
def yX6_isKind : MethodName := ⟨RX6, "isKind", "(I)Z"⟩
abbrev cX6_isDigit : ByteArray := prog_8_method_6_code
def yX6_isDigit : MethodName := ⟨RX6, "isDigit", "(I)Z"⟩
def RX7 : String := "RowsDrawn$Rule"
def TX7 : u_T := fun k => match k with
  | 0 => ("RowsDrawn$Rule", "sort", "I", true)
  | _ => ("RowsDrawn$Rule", "steps", "[I", true)
def tyX7 : Nat → FieldType := fun k => match k with
  | 0 => .int
  | _ => .array .int
abbrev wsX70 : List Cond := u_ws RX7 TX7 2
theorem nmX7 : ∀ a, a < 2 → ∀ b, b < 2 → a ≠ b → (TX7 a).2.1 ≠ (TX7 b).2.1 := by decide +kernel
theorem tyX7_ok : ∀ k, k < 2 → parseFieldDescriptor (TX7 k).2.2.1 = some (tyX7 k) := by decide +kernel
abbrev cX7_init : ByteArray := prog_9_method_1_code
def yX7_init : MethodName := ⟨RX7, "<init>", "(ILRowsDrawn$RuleReader;)V"⟩
abbrev cX7_isOf : ByteArray := prog_9_method_2_code
def yX7_isOf : MethodName := ⟨RX7, "isOf", "(I)Z"⟩
abbrev cX7_drawn : ByteArray := prog_9_method_3_code
def yX7_drawn : MethodName := ⟨RX7, "drawn", "(LRowsDrawn$Page;I)I"⟩
abbrev cX7_firstWord : ByteArray := prog_9_method_4_code
def yX7_firstWord : MethodName := ⟨RX7, "firstWord", "(LRowsDrawn$Page;I)I"⟩
def RX8 : String := "RowsDrawn$RuleReader"
def TX8 : u_T := fun k => match k with
  | 0 => ("RowsDrawn$RuleReader", "steps", "[I", true)
  | 1 => ("RowsDrawn$RuleReader", "size", "I", false)
  | 2 => ("RowsDrawn$RuleReader", "behindStep", "Z", false)
  | _ => ("RowsDrawn$RuleReader", "behindStar", "Z", false)
def tyX8 : Nat → FieldType := fun k => match k with
  | 0 => .array .int
  | 1 => .int
  | 2 => .boolean
  | _ => .boolean
abbrev wsX80 : List Cond := u_ws RX8 TX8 4
theorem nmX8 : ∀ a, a < 4 → ∀ b, b < 4 → a ≠ b → (TX8 a).2.1 ≠ (TX8 b).2.1 := by decide +kernel
theorem tyX8_ok : ∀ k, k < 4 → parseFieldDescriptor (TX8 k).2.2.1 = some (tyX8 k) := by decide +kernel
abbrev cX8_init : ByteArray := prog_10_method_1_code
def yX8_init : MethodName := ⟨RX8, "<init>", "()V"⟩
abbrev cX8_restart : ByteArray := prog_10_method_2_code
def yX8_restart : MethodName := ⟨RX8, "restart", "()V"⟩
abbrev cX8_atEnd : ByteArray := prog_10_method_3_code
def yX8_atEnd : MethodName := ⟨RX8, "atEnd", "()Z"⟩
abbrev cX8_takes : ByteArray := prog_10_method_4_code
def yX8_takes : MethodName := ⟨RX8, "takes", "(I)Z"⟩
abbrev cX8_stepOfDigit : ByteArray := prog_10_method_5_code
def yX8_stepOfDigit : MethodName := ⟨RX8, "stepOfDigit", "(I)I"⟩
abbrev cX8_takesStep : ByteArray := prog_10_method_6_code
def yX8_takesStep : MethodName := ⟨RX8, "takesStep", "(I)Z"⟩
def RX9 : String := "RowsDrawn"
def TX9 : u_T := fun k => match k with
  | 0 => ("RowsDrawn", "sheet", "[B", true)
  | 1 => ("RowsDrawn", "sheetSize", "I", false)
  | 2 => ("RowsDrawn", "pages", "[LRowsDrawn$Page;", true)
  | 3 => ("RowsDrawn", "pageCount", "I", false)
  | 4 => ("RowsDrawn", "rules", "[LRowsDrawn$Rule;", true)
  | 5 => ("RowsDrawn", "ruleCount", "I", false)
  | 6 => ("RowsDrawn", "laws", "[LRowsDrawn$Law;", true)
  | 7 => ("RowsDrawn", "lawCount", "I", false)
  | 8 => ("RowsDrawn", "pageReader", "LRowsDrawn$PageReader;", true)
  | 9 => ("RowsDrawn", "ruleReader", "LRowsDrawn$RuleReader;", true)
  | 10 => ("RowsDrawn", "fitting", "LRowsDrawn$Fitting;", true)
  | 11 => ("RowsDrawn", "fittingStands", "Z", false)
  | 12 => ("RowsDrawn", "mending", "LRowsDrawn$Mending;", true)
  | 13 => ("RowsDrawn", "pairing", "LRowsDrawn$Pairing;", true)
  | _ => ("RowsDrawn", "otherKeys", "[I", true)
def tyX9 : Nat → FieldType := fun k => match k with
  | 0 => .array .byte
  | 1 => .int
  | 2 => .array (.object "RowsDrawn$Page")
  | 3 => .int
  | 4 => .array (.object "RowsDrawn$Rule")
  | 5 => .int
  | 6 => .array (.object "RowsDrawn$Law")
  | 7 => .int
  | 8 => .object "RowsDrawn$PageReader"
  | 9 => .object "RowsDrawn$RuleReader"
  | 10 => .object "RowsDrawn$Fitting"
  | 11 => .boolean
  | 12 => .object "RowsDrawn$Mending"
  | 13 => .object "RowsDrawn$Pairing"
  | _ => .array .int
abbrev wsX90 : List Cond := u_ws RX9 TX9 15
theorem nmX9 : ∀ a, a < 15 → ∀ b, b < 15 → a ≠ b → (TX9 a).2.1 ≠ (TX9 b).2.1 := by decide +kernel
theorem tyX9_ok : ∀ k, k < 15 → parseFieldDescriptor (TX9 k).2.2.1 = some (tyX9 k) := by decide +kernel
abbrev cX9_init : ByteArray := prog_1_method_1_code
def yX9_init : MethodName := ⟨RX9, "<init>", "()V"⟩
abbrev cX9_letters : ByteArray := prog_1_method_2_code
def yX9_letters : MethodName := ⟨RX9, "letters", "(J)I"⟩
abbrev cX9_codeAt : ByteArray := prog_1_method_3_code
def yX9_codeAt : MethodName := ⟨RX9, "codeAt", "(JI)I"⟩
abbrev cX9_blank : ByteArray := prog_1_method_4_code
def yX9_blank : MethodName := ⟨RX9, "blank", "()I"⟩
abbrev cX9_fault : ByteArray := prog_1_method_5_code
def yX9_fault : MethodName := ⟨RX9, "fault", "(I)I"⟩
abbrev cX9_readSheet : ByteArray := prog_1_method_6_code
def yX9_readSheet : MethodName := ⟨RX9, "readSheet", "(LRowsDrawn$Reader;)I"⟩
abbrev cX9_sheetIsRead : ByteArray := prog_1_method_7_code
def yX9_sheetIsRead : MethodName := ⟨RX9, "sheetIsRead", "(LRowsDrawn$Reader;)Z"⟩
abbrev cX9_page : ByteArray := prog_1_method_8_code
def yX9_page : MethodName := ⟨RX9, "page", "()I"⟩
abbrev cX9_rule : ByteArray := prog_1_method_9_code
def yX9_rule : MethodName := ⟨RX9, "rule", "(I)I"⟩
abbrev cX9_isSort : ByteArray := prog_1_method_10_code
def yX9_isSort : MethodName := ⟨RX9, "isSort", "(I)Z"⟩
abbrev cX9_pageAt : ByteArray := prog_1_method_11_code
def yX9_pageAt : MethodName := ⟨RX9, "pageAt", "(I)LRowsDrawn$Page;"⟩
abbrev cX9_ruleAt : ByteArray := prog_1_method_12_code
def yX9_ruleAt : MethodName := ⟨RX9, "ruleAt", "(I)LRowsDrawn$Rule;"⟩
abbrev cX9_lawAt : ByteArray := prog_1_method_13_code
def yX9_lawAt : MethodName := ⟨RX9, "lawAt", "(I)LRowsDrawn$Law;"⟩
abbrev cX9_as : ByteArray := prog_1_method_14_code
def yX9_as : MethodName := ⟨RX9, "as", "(II)I"⟩
abbrev cX9_box : ByteArray := prog_1_method_15_code
def yX9_box : MethodName := ⟨RX9, "box", "(III)I"⟩
abbrev cX9_gives : ByteArray := prog_1_method_16_code
def yX9_gives : MethodName := ⟨RX9, "gives", "(II)I"⟩
abbrev cX9_word : ByteArray := prog_1_method_17_code
def yX9_word : MethodName := ⟨RX9, "word", "(III)I"⟩
abbrev cX9_within : ByteArray := prog_1_method_18_code
def yX9_within : MethodName := ⟨RX9, "within", "(III)I"⟩
abbrev cX9_mark : ByteArray := prog_1_method_19_code
def yX9_mark : MethodName := ⟨RX9, "mark", "(III)I"⟩
abbrev cX9_whole : ByteArray := prog_1_method_20_code
def yX9_whole : MethodName := ⟨RX9, "whole", "(IZ)I"⟩
abbrev cX9_fits : ByteArray := prog_1_method_21_code
def yX9_fits : MethodName := ⟨RX9, "fits", "(I)I"⟩
abbrev cX9_refreshFitting : ByteArray := prog_1_method_22_code
def yX9_refreshFitting : MethodName := ⟨RX9, "refreshFitting", "()V"⟩
abbrev cX9_step : ByteArray := prog_1_method_23_code
def yX9_step : MethodName := ⟨RX9, "step", "(II)I"⟩
abbrev cX9_leads : ByteArray := prog_1_method_24_code
def yX9_leads : MethodName := ⟨RX9, "leads", "(II)I"⟩
abbrev cX9_ask : ByteArray := prog_1_method_25_code
def yX9_ask : MethodName := ⟨RX9, "ask", "(I)I"⟩
abbrev cX9_law : ByteArray := prog_1_method_26_code
def yX9_law : MethodName := ⟨RX9, "law", "(III)I"⟩
abbrev cX9_holds : ByteArray := prog_1_method_27_code
def yX9_holds : MethodName := ⟨RX9, "holds", "(III)I"⟩
abbrev cX9_broken : ByteArray := prog_1_method_28_code
def yX9_broken : MethodName := ⟨RX9, "broken", "(II)I"⟩
abbrev cX9_mend : ByteArray := prog_1_method_29_code
def yX9_mend : MethodName := ⟨RX9, "mend", "(IIII)I"⟩
abbrev cX9_like : ByteArray := prog_1_method_30_code
def yX9_like : MethodName := ⟨RX9, "like", "(II)I"⟩
abbrev cX9_nearest : ByteArray := prog_1_method_31_code
def yX9_nearest : MethodName := ⟨RX9, "nearest", "(I)I"⟩
abbrev cX9_joined : ByteArray := prog_1_method_32_code
def yX9_joined : MethodName := ⟨RX9, "joined", "(IIIIII)I"⟩
abbrev cX9_setOtherKeys : ByteArray := prog_1_method_33_code
def yX9_setOtherKeys : MethodName := ⟨RX9, "setOtherKeys", "(LRowsDrawn$Rule;LRowsDrawn$Rule;LRowsDrawn$Page;)V"⟩
abbrev cX9_pairsUpTo : ByteArray := prog_1_method_34_code
def yX9_pairsUpTo : MethodName := ⟨RX9, "pairsUpTo", "(LRowsDrawn$Rule;LRowsDrawn$Rule;LRowsDrawn$Page;I)I"⟩
abbrev cX9_key : ByteArray := prog_1_method_35_code
def yX9_key : MethodName := ⟨RX9, "key", "(IIII)I"⟩
abbrev cX9_count : ByteArray := prog_1_method_36_code
def yX9_count : MethodName := ⟨RX9, "count", "(I)I"⟩
abbrev cX9_countOnPages : ByteArray := prog_1_method_37_code
def yX9_countOnPages : MethodName := ⟨RX9, "countOnPages", "(I)I"⟩
abbrev cX9_digest : ByteArray := prog_1_method_38_code
def yX9_digest : MethodName := ⟨RX9, "digest", "()J"⟩
abbrev cX9_digestPage : ByteArray := prog_1_method_39_code
def yX9_digestPage : MethodName := ⟨RX9, "digestPage", "(JI)J"⟩
abbrev cX9_isIn : ByteArray := prog_1_method_40_code
def yX9_isIn : MethodName := ⟨RX9, "isIn", "(II)Z"⟩
abbrev cX9_leastOf : ByteArray := prog_1_method_41_code
def yX9_leastOf : MethodName := ⟨RX9, "leastOf", "(I)I"⟩
abbrev cX9_nth : ByteArray := prog_1_method_42_code
def yX9_nth : MethodName := ⟨RX9, "nth", "(II)I"⟩
abbrev cX9_lengthOf : ByteArray := prog_1_method_43_code
def yX9_lengthOf : MethodName := ⟨RX9, "lengthOf", "(I)I"⟩
abbrev cX9_stepOf : ByteArray := prog_1_method_44_code
def yX9_stepOf : MethodName := ⟨RX9, "stepOf", "(II)I"⟩
def RX10 : String := "RowsDrawnModel"
def TX10 : u_T := fun k => match k with
  | 0 => ("RowsDrawnModel", "pages", "I", false)
  | 1 => ("RowsDrawnModel", "boxMany", "[I", true)
  | 2 => ("RowsDrawnModel", "kinds", "[I", true)
  | 3 => ("RowsDrawnModel", "words", "[I", true)
  | 4 => ("RowsDrawnModel", "parents", "[I", true)
  | 5 => ("RowsDrawnModel", "marks", "[I", true)
  | 6 => ("RowsDrawnModel", "isWhole", "[Z", true)
  | 7 => ("RowsDrawnModel", "sheet", "[I", true)
  | 8 => ("RowsDrawnModel", "sheetMany", "I", false)
  | 9 => ("RowsDrawnModel", "state", "I", false)
  | 10 => ("RowsDrawnModel", "readMany", "I", false)
  | 11 => ("RowsDrawnModel", "readKinds", "[I", true)
  | 12 => ("RowsDrawnModel", "readWords", "[I", true)
  | 13 => ("RowsDrawnModel", "readParents", "[I", true)
  | 14 => ("RowsDrawnModel", "inside", "I", false)
  | 15 => ("RowsDrawnModel", "readSteps", "[I", true)
  | 16 => ("RowsDrawnModel", "stepMany", "I", false)
  | 17 => ("RowsDrawnModel", "rules", "I", false)
  | 18 => ("RowsDrawnModel", "ruleSort", "[I", true)
  | 19 => ("RowsDrawnModel", "ruleMany", "[I", true)
  | 20 => ("RowsDrawnModel", "ruleSteps", "[I", true)
  | 21 => ("RowsDrawnModel", "leadTo", "[I", true)
  | 22 => ("RowsDrawnModel", "isFit", "[Z", true)
  | 23 => ("RowsDrawnModel", "fitMany", "I", false)
  | 24 => ("RowsDrawnModel", "evens", "[I", true)
  | 25 => ("RowsDrawnModel", "counts", "[I", true)
  | 26 => ("RowsDrawnModel", "leading", "[I", true)
  | 27 => ("RowsDrawnModel", "laws", "I", false)
  | 28 => ("RowsDrawnModel", "forms", "[I", true)
  | 29 => ("RowsDrawnModel", "lawX", "[I", true)
  | 30 => ("RowsDrawnModel", "lawY", "[I", true)
  | 31 => ("RowsDrawnModel", "often", "[I", true)
  | 32 => ("RowsDrawnModel", "isBefore", "[Z", true)
  | 33 => ("RowsDrawnModel", "alike", "[I", true)
  | 34 => ("RowsDrawnModel", "best", "[I", true)
  | 35 => ("RowsDrawnModel", "left", "[I", true)
  | 36 => ("RowsDrawnModel", "right", "[I", true)
  | _ => ("RowsDrawnModel", "hash", "J", false)
def tyX10 : Nat → FieldType := fun k => match k with
  | 0 => .int
  | 1 => .array .int
  | 2 => .array .int
  | 3 => .array .int
  | 4 => .array .int
  | 5 => .array .int
  | 6 => .array .boolean
  | 7 => .array .int
  | 8 => .int
  | 9 => .int
  | 10 => .int
  | 11 => .array .int
  | 12 => .array .int
  | 13 => .array .int
  | 14 => .int
  | 15 => .array .int
  | 16 => .int
  | 17 => .int
  | 18 => .array .int
  | 19 => .array .int
  | 20 => .array .int
  | 21 => .array .int
  | 22 => .array .boolean
  | 23 => .int
  | 24 => .array .int
  | 25 => .array .int
  | 26 => .array .int
  | 27 => .int
  | 28 => .array .int
  | 29 => .array .int
  | 30 => .array .int
  | 31 => .array .int
  | 32 => .array .boolean
  | 33 => .array .int
  | 34 => .array .int
  | 35 => .array .int
  | 36 => .array .int
  | _ => .long
abbrev wsX100 : List Cond := u_ws RX10 TX10 38
theorem nmX10 : ∀ a, a < 38 → ∀ b, b < 38 → a ≠ b → (TX10 a).2.1 ≠ (TX10 b).2.1 := by decide +kernel
theorem tyX10_ok : ∀ k, k < 38 → parseFieldDescriptor (TX10 k).2.2.1 = some (tyX10 k) := by decide +kernel
abbrev cX10_init : ByteArray := prog_12_method_1_code
def yX10_init : MethodName := ⟨RX10, "<init>", "()V"⟩
abbrev cX10_in : ByteArray := prog_12_method_2_code
def yX10_in : MethodName := ⟨RX10, "in", "(JJJ)Z"⟩
abbrev cX10_bitsOf : ByteArray := prog_12_method_3_code
def yX10_bitsOf : MethodName := ⟨RX10, "bitsOf", "(I)I"⟩
abbrev cX10_has : ByteArray := prog_12_method_4_code
def yX10_has : MethodName := ⟨RX10, "has", "(II)Z"⟩
abbrev cX10_isPage : ByteArray := prog_12_method_5_code
def yX10_isPage : MethodName := ⟨RX10, "isPage", "(I)Z"⟩
abbrev cX10_isBox : ByteArray := prog_12_method_6_code
def yX10_isBox : MethodName := ⟨RX10, "isBox", "(II)Z"⟩
abbrev cX10_letters : ByteArray := prog_12_method_7_code
def yX10_letters : MethodName := ⟨RX10, "letters", "(J)I"⟩
abbrev cX10_blank : ByteArray := prog_12_method_8_code
def yX10_blank : MethodName := ⟨RX10, "blank", "()I"⟩
abbrev cX10_beginBox : ByteArray := prog_12_method_9_code
def yX10_beginBox : MethodName := ⟨RX10, "beginBox", "(I)Z"⟩
abbrev cX10_goPage : ByteArray := prog_12_method_10_code
def yX10_goPage : MethodName := ⟨RX10, "goPage", "(I)Z"⟩
abbrev cX10_addStep : ByteArray := prog_12_method_11_code
def yX10_addStep : MethodName := ⟨RX10, "addStep", "(I)V"⟩
abbrev cX10_goRule : ByteArray := prog_12_method_12_code
def yX10_goRule : MethodName := ⟨RX10, "goRule", "(I)Z"⟩
abbrev cX10_faultOf : ByteArray := prog_12_method_13_code
def yX10_faultOf : MethodName := ⟨RX10, "faultOf", "(I)I"⟩
abbrev cX10_fault : ByteArray := prog_12_method_14_code
def yX10_fault : MethodName := ⟨RX10, "fault", "(I)I"⟩
abbrev cX10_page : ByteArray := prog_12_method_15_code
def yX10_page : MethodName := ⟨RX10, "page", "()I"⟩
abbrev cX10_rule : ByteArray := prog_12_method_16_code
def yX10_rule : MethodName := ⟨RX10, "rule", "(I)I"⟩
abbrev cX10_isRule : ByteArray := prog_12_method_17_code
def yX10_isRule : MethodName := ⟨RX10, "isRule", "(I)Z"⟩
abbrev cX10_as : ByteArray := prog_12_method_18_code
def yX10_as : MethodName := ⟨RX10, "as", "(II)I"⟩
abbrev cX10_innerMany : ByteArray := prog_12_method_19_code
def yX10_innerMany : MethodName := ⟨RX10, "innerMany", "(II)I"⟩
abbrev cX10_depth : ByteArray := prog_12_method_20_code
def yX10_depth : MethodName := ⟨RX10, "depth", "(II)I"⟩
abbrev cX10_boxOf : ByteArray := prog_12_method_21_code
def yX10_boxOf : MethodName := ⟨RX10, "boxOf", "(III)I"⟩
abbrev cX10_box : ByteArray := prog_12_method_22_code
def yX10_box : MethodName := ⟨RX10, "box", "(III)I"⟩
abbrev cX10_led : ByteArray := prog_12_method_23_code
def yX10_led : MethodName := ⟨RX10, "led", "(III)I"⟩
abbrev cX10_placeIn : ByteArray := prog_12_method_24_code
def yX10_placeIn : MethodName := ⟨RX10, "placeIn", "(II)I"⟩
abbrev cX10_aheadOf : ByteArray := prog_12_method_25_code
def yX10_aheadOf : MethodName := ⟨RX10, "aheadOf", "(II)I"⟩
abbrev cX10_givenFrom : ByteArray := prog_12_method_26_code
def yX10_givenFrom : MethodName := ⟨RX10, "givenFrom", "(III)I"⟩
abbrev cX10_given : ByteArray := prog_12_method_27_code
def yX10_given : MethodName := ⟨RX10, "given", "(II)I"⟩
abbrev cX10_gives : ByteArray := prog_12_method_28_code
def yX10_gives : MethodName := ⟨RX10, "gives", "(II)I"⟩
abbrev cX10_nth : ByteArray := prog_12_method_29_code
def yX10_nth : MethodName := ⟨RX10, "nth", "(II)I"⟩
abbrev cX10_word : ByteArray := prog_12_method_30_code
def yX10_word : MethodName := ⟨RX10, "word", "(III)I"⟩
abbrev cX10_within : ByteArray := prog_12_method_31_code
def yX10_within : MethodName := ⟨RX10, "within", "(III)I"⟩
abbrev cX10_mark : ByteArray := prog_12_method_32_code
def yX10_mark : MethodName := ⟨RX10, "mark", "(III)I"⟩
abbrev cX10_whole : ByteArray := prog_12_method_33_code
def yX10_whole : MethodName := ⟨RX10, "whole", "(IZ)I"⟩
abbrev cX10_marked : ByteArray := prog_12_method_34_code
def yX10_marked : MethodName := ⟨RX10, "marked", "(II)I"⟩
abbrev cX10_stepsOf : ByteArray := prog_12_method_35_code
def yX10_stepsOf : MethodName := ⟨RX10, "stepsOf", "(I)I"⟩
abbrev cX10_stepOf : ByteArray := prog_12_method_36_code
def yX10_stepOf : MethodName := ⟨RX10, "stepOf", "(II)I"⟩
abbrev cX10_asRule : ByteArray := prog_12_method_37_code
def yX10_asRule : MethodName := ⟨RX10, "asRule", "(I)I"⟩
abbrev cX10_layLeads : ByteArray := prog_12_method_38_code
def yX10_layLeads : MethodName := ⟨RX10, "layLeads", "(I)V"⟩
abbrev cX10_leadsOn : ByteArray := prog_12_method_39_code
def yX10_leadsOn : MethodName := ⟨RX10, "leadsOn", "(I)I"⟩
abbrev cX10_findFits : ByteArray := prog_12_method_40_code
def yX10_findFits : MethodName := ⟨RX10, "findFits", "()V"⟩
abbrev cX10_findEvens : ByteArray := prog_12_method_41_code
def yX10_findEvens : MethodName := ⟨RX10, "findEvens", "()V"⟩
abbrev cX10_chosen : ByteArray := prog_12_method_42_code
def yX10_chosen : MethodName := ⟨RX10, "chosen", "(I)I"⟩
abbrev cX10_fits : ByteArray := prog_12_method_43_code
def yX10_fits : MethodName := ⟨RX10, "fits", "(I)I"⟩
abbrev cX10_step : ByteArray := prog_12_method_44_code
def yX10_step : MethodName := ⟨RX10, "step", "(II)I"⟩
abbrev cX10_countLeads : ByteArray := prog_12_method_45_code
def yX10_countLeads : MethodName := ⟨RX10, "countLeads", "(I)V"⟩
abbrev cX10_leads : ByteArray := prog_12_method_46_code
def yX10_leads : MethodName := ⟨RX10, "leads", "(II)I"⟩
abbrev cX10_ask : ByteArray := prog_12_method_47_code
def yX10_ask : MethodName := ⟨RX10, "ask", "(I)I"⟩
abbrev cX10_law : ByteArray := prog_12_method_48_code
def yX10_law : MethodName := ⟨RX10, "law", "(III)I"⟩
abbrev cX10_countWords : ByteArray := prog_12_method_49_code
def yX10_countWords : MethodName := ⟨RX10, "countWords", "(II)V"⟩
abbrev cX10_holdsAsBefore : ByteArray := prog_12_method_50_code
def yX10_holdsAsBefore : MethodName := ⟨RX10, "holdsAsBefore", "(III)Z"⟩
abbrev cX10_holdsLaw : ByteArray := prog_12_method_51_code
def yX10_holdsLaw : MethodName := ⟨RX10, "holdsLaw", "(III)Z"⟩
abbrev cX10_holds : ByteArray := prog_12_method_52_code
def yX10_holds : MethodName := ⟨RX10, "holds", "(III)I"⟩
abbrev cX10_brokenOf : ByteArray := prog_12_method_53_code
def yX10_brokenOf : MethodName := ⟨RX10, "brokenOf", "(II)I"⟩
abbrev cX10_broken : ByteArray := prog_12_method_54_code
def yX10_broken : MethodName := ⟨RX10, "broken", "(II)I"⟩
abbrev cX10_likeness : ByteArray := prog_12_method_55_code
def yX10_likeness : MethodName := ⟨RX10, "likeness", "(II)I"⟩
abbrev cX10_mend : ByteArray := prog_12_method_56_code
def yX10_mend : MethodName := ⟨RX10, "mend", "(IIII)I"⟩
abbrev cX10_innerOf : ByteArray := prog_12_method_57_code
def yX10_innerOf : MethodName := ⟨RX10, "innerOf", "(II[I)I"⟩
abbrev cX10_pairBest : ByteArray := prog_12_method_58_code
def yX10_pairBest : MethodName := ⟨RX10, "pairBest", "(IIII)I"⟩
abbrev cX10_likeOf : ByteArray := prog_12_method_59_code
def yX10_likeOf : MethodName := ⟨RX10, "likeOf", "(II)I"⟩
abbrev cX10_like : ByteArray := prog_12_method_60_code
def yX10_like : MethodName := ⟨RX10, "like", "(II)I"⟩
abbrev cX10_nearest : ByteArray := prog_12_method_61_code
def yX10_nearest : MethodName := ⟨RX10, "nearest", "(I)I"⟩
abbrev cX10_firstWord : ByteArray := prog_12_method_62_code
def yX10_firstWord : MethodName := ⟨RX10, "firstWord", "(III)I"⟩
abbrev cX10_joined : ByteArray := prog_12_method_63_code
def yX10_joined : MethodName := ⟨RX10, "joined", "(IIIIII)I"⟩
abbrev cX10_key : ByteArray := prog_12_method_64_code
def yX10_key : MethodName := ⟨RX10, "key", "(IIII)I"⟩
abbrev cX10_countOf : ByteArray := prog_12_method_65_code
def yX10_countOf : MethodName := ⟨RX10, "countOf", "(I)I"⟩
abbrev cX10_count : ByteArray := prog_12_method_66_code
def yX10_count : MethodName := ⟨RX10, "count", "(I)I"⟩
abbrev cX10_tell : ByteArray := prog_12_method_67_code
def yX10_tell : MethodName := ⟨RX10, "tell", "(J)V"⟩
abbrev cX10_digest : ByteArray := prog_12_method_68_code
def yX10_digest : MethodName := ⟨RX10, "digest", "()J"⟩
def RJ6 : String := "java/lang/Integer"
abbrev cJ6_bitCount_0f7a4 : ByteArray := prog_14_method_49_code
def yJ6_bitCount_0f7a4 : MethodName := ⟨RJ6, "bitCount", "(I)I"⟩
def RJ9 : String := "java/lang/Math"
abbrev cJ9_max_7cf53 : ByteArray := prog_15_method_65_code
def yJ9_max_7cf53 : MethodName := ⟨RJ9, "max", "(II)I"⟩
abbrev cJ9_min_7cf53 : ByteArray := prog_15_method_69_code
def yJ9_min_7cf53 : MethodName := ⟨RJ9, "min", "(II)I"⟩
def RJ10 : String := "java/lang/System"
def RJ7 : String := "java/util/Arrays"
abbrev cJ7_fill_53178 : ByteArray := prog_17_method_103_code
def yJ7_fill_53178 : MethodName := ⟨RJ7, "fill", "([II)V"⟩
abbrev cJ7_copyOf_59c91 : ByteArray := prog_17_method_123_code
def yJ7_copyOf_59c91 : MethodName := ⟨RJ7, "copyOf", "([II)[I"⟩
def RL : String := "RowsDrawnLaw"
abbrev cL_law : ByteArray := code
def yL_law : MethodName := ⟨RL, "law", "([I)Z"⟩
abbrev vwCl : List vw_C := [(RX0, TX0, 7), (RX1, TX1, 3), (RX2, TX2, 4), (RX3, TX3, 16), (RX4, TX4, 8), (RX5, TX5, 2), (RX7, TX7, 2), (RX8, TX8, 4), (RX9, TX9, 15), (RX10, TX10, 38)]
end
section
/-! the methods, by number: bytes, locals, answer, name, owner, places of longs, frames, words of locals, widths of arguments; and the links of each owner -/
abbrev m_R : Type := ByteArray × Nat × Option FieldType × MethodName × Nat × List Nat × Nat × Nat × List Nat
def m_tab0 : List m_R := [(cX0_init, 1, none, yX0_init, 0, [], 1, 20, [1]),
  (cX0_workOut, 4, none, yX0_workOut, 0, [], 4, 92, [1, 1, 1]),
  (cX0_isFit, 4, (some .boolean), yX0_isFit, 0, [], 1, 21, [1, 1, 1]),
  (cX0_takeIn, 8, none, yX0_takeIn, 0, [], 2, 49, [1, 1, 1, 1]),
  (cX0_evenOf, 7, (some .int), yX0_evenOf, 0, [], 1, 23, [1, 1, 1, 1]),
  (cX0_greaterPart, 2, (some .int), yX0_greaterPart, 0, [], 1, 21, [1, 1]),
  (cX0_bestToAsk, 8, (some .int), yX0_bestToAsk, 0, [], 2, 42, [1, 1, 1]),
  (cX1_init, 4, none, yX1_init, 1, [], 1, 20, [1, 1, 1, 1]),
  (cX1_isKept, 5, (some .boolean), yX1_isKept, 1, [], 4, 95, [1, 1, 1, 1, 1]),
  (cX1_isBetween, 2, (some .boolean), yX1_isBetween, 1, [], 0, 0, [1, 1]),
  (cX1_wordsAreBetween, 4, (some .boolean), yX1_wordsAreBetween, 1, [], 1, 21, [1, 1, 1]),
  (cX1_isAsBefore, 7, (some .boolean), yX1_isAsBefore, 1, [], 3, 69, [1, 1, 1, 1, 1]),
  (cX2_init, 1, none, yX2_init, 2, [], 1, 20, [1]),
  (cX2_workOut, 6, none, yX2_workOut, 2, [], 4, 92, [1, 1, 1]),
  (cX2_likenessOf, 4, (some .int), yX2_likenessOf, 2, [], 2, 44, [1, 1, 1]),
  (cX3_init, 6, none, yX3_init, 3, [], 2, 82, [1, 1]),
  (cX3_firstWith, 4, (some .int), yX3_firstWith, 3, [], 0, 0, [1, 1, 1]),
  (cX3_has, 2, (some .boolean), yX3_has, 3, [], 0, 0, [1, 1]),
  (cX3_markOf, 2, (some .int), yX3_markOf, 3, [], 1, 21, [1, 1]),
  (cX3_setMark, 4, none, yX3_setMark, 3, [], 0, 0, [1, 1, 1]),
  (cX3_isUnmarked, 1, (some .boolean), yX3_isUnmarked, 3, [], 0, 0, [1]),
  (cX3_isMet, 2, (some .boolean), yX3_isMet, 3, [], 0, 0, [1, 1]),
  (cX3_led, 5, (some .int), yX3_led, 3, [], 2, 46, [1, 1, 1]),
  (cX3_ledFrom, 3, (some .int), yX3_ledFrom, 3, [], 1, 24, [1, 1, 1]),
  (cX3_innerFrom, 5, (some .int), yX3_innerFrom, 3, [], 0, 0, [1, 1, 1]),
  (cX3_innerBehind, 3, (some .int), yX3_innerBehind, 3, [], 0, 0, [1, 1]),
  (cX3_drawSentences, 3, none, yX3_drawSentences, 3, [], 3, 70, [1]),
  (cX3_unlikeWords, 4, (some .int), yX3_unlikeWords, 3, [], 1, 21, [1, 1]),
  (cX3_hasWord, 4, (some .boolean), yX3_hasWord, 3, [], 1, 21, [1, 1, 1]),
  (cX3_sharedWords, 6, (some .int), yX3_sharedWords, 3, [], 2, 44, [1, 1, 1, 1])]
def m_tab1 : List m_R := [(cX4_init, 1, none, yX4_init, 4, [], 2, 40, [1]),
  (cX4_restart, 1, none, yX4_restart, 4, [], 0, 0, [1]),
  (cX4_atEnd, 1, (some .boolean), yX4_atEnd, 4, [], 0, 0, [1]),
  (cX4_takes, 2, (some .boolean), yX4_takes, 4, [], 2, 42, [1, 1]),
  (cX4_takesKind, 2, (some .boolean), yX4_takesKind, 4, [], 0, 0, [1, 1]),
  (cX4_lastBoxGoesOn, 1, (some .boolean), yX4_lastBoxGoesOn, 4, [], 0, 0, [1]),
  (cX4_takesDigit, 3, (some .boolean), yX4_takesDigit, 4, [], 1, 20, [1, 1]),
  (cX4_takesOpening, 1, (some .boolean), yX4_takesOpening, 4, [], 1, 20, [1]),
  (cX4_takesClosing, 1, (some .boolean), yX4_takesClosing, 4, [], 0, 0, [1]),
  (cX5_init, 1, none, yX5_init, 5, [], 1, 20, [1]),
  (cX5_likeOf, 5, (some .int), yX5_likeOf, 5, [], 4, 97, [1, 1, 1]),
  (cX5_likeOfBoxes, 7, (some .int), yX5_likeOfBoxes, 5, [], 3, 71, [1, 1, 1, 1, 1]),
  (cX5_likeWithin, 5, (some .int), yX5_likeWithin, 5, [], 2, 47, [1, 1, 1]),
  (cX5_pairOneMore, 7, (some .int), yX5_pairOneMore, 5, [], 1, 21, [1, 1, 1]),
  (cX6_init, 1, none, yX6_init, 6, [], 1, 20, [1]),
  (cX6_isKind, 1, (some .boolean), yX6_isKind, 6, [], 0, 0, [1]),
  (cX6_isDigit, 1, (some .boolean), yX6_isDigit, 6, [], 0, 0, [1]),
  (cX7_init, 3, none, yX7_init, 7, [], 2, 82, [1, 1, 1]),
  (cX7_isOf, 2, (some .boolean), yX7_isOf, 7, [], 0, 0, [1, 1]),
  (cX7_drawn, 5, (some .int), yX7_drawn, 7, [], 3, 70, [1, 1, 1]),
  (cX7_firstWord, 4, (some .int), yX7_firstWord, 7, [], 4, 94, [1, 1, 1]),
  (cX8_init, 1, none, yX8_init, 8, [], 2, 40, [1]),
  (cX8_restart, 1, none, yX8_restart, 8, [], 0, 0, [1]),
  (cX8_atEnd, 1, (some .boolean), yX8_atEnd, 8, [], 0, 0, [1]),
  (cX8_takes, 2, (some .boolean), yX8_takes, 8, [], 1, 21, [1, 1]),
  (cX8_stepOfDigit, 1, (some .int), yX8_stepOfDigit, 8, [], 0, 0, [1]),
  (cX8_takesStep, 2, (some .boolean), yX8_takesStep, 8, [], 0, 0, [1, 1]),
  (cX9_init, 1, none, yX9_init, 9, [], 3, 60, [1]),
  (cX9_letters, 7, (some .int), yX9_letters, 9, [1], 1, 22, [1, 2]),
  (cX9_codeAt, 3, (some .int), yX9_codeAt, 9, [0], 0, 0, [2, 1])]
def m_tab2 : List m_R := [(cX9_blank, 2, (some .int), yX9_blank, 9, [], 0, 0, [1]),
  (cX9_fault, 2, (some .int), yX9_fault, 9, [], 4, 85, [1, 1]),
  (cX9_readSheet, 3, (some .int), yX9_readSheet, 9, [], 3, 63, [1, 1]),
  (cX9_sheetIsRead, 2, (some .boolean), yX9_sheetIsRead, 9, [], 4, 85, [1, 1]),
  (cX9_page, 1, (some .int), yX9_page, 9, [], 5, 107, [1]),
  (cX9_rule, 2, (some .int), yX9_rule, 9, [], 5, 106, [1, 1]),
  (cX9_isSort, 1, (some .boolean), yX9_isSort, 9, [], 0, 0, [1]),
  (cX9_pageAt, 2, (some (.object "RowsDrawn$Page")), yX9_pageAt, 9, [], 0, 0, [1, 1]),
  (cX9_ruleAt, 2, (some (.object "RowsDrawn$Rule")), yX9_ruleAt, 9, [], 0, 0, [1, 1]),
  (cX9_lawAt, 2, (some (.object "RowsDrawn$Law")), yX9_lawAt, 9, [], 0, 0, [1, 1]),
  (cX9_as, 4, (some .int), yX9_as, 9, [], 1, 21, [1, 1, 1]),
  (cX9_box, 5, (some .int), yX9_box, 9, [], 1, 21, [1, 1, 1, 1]),
  (cX9_gives, 5, (some .int), yX9_gives, 9, [], 4, 94, [1, 1, 1]),
  (cX9_word, 7, (some .int), yX9_word, 9, [], 4, 94, [1, 1, 1, 1]),
  (cX9_within, 6, (some .int), yX9_within, 9, [], 4, 94, [1, 1, 1, 1]),
  (cX9_mark, 6, (some .int), yX9_mark, 9, [], 2, 42, [1, 1, 1, 1]),
  (cX9_whole, 5, (some .int), yX9_whole, 9, [], 1, 21, [1, 1, 1]),
  (cX9_fits, 2, (some .int), yX9_fits, 9, [], 6, 135, [1, 1]),
  (cX9_refreshFitting, 1, none, yX9_refreshFitting, 9, [], 5, 115, [1]),
  (cX9_step, 3, (some .int), yX9_step, 9, [], 6, 135, [1, 1, 1]),
  (cX9_leads, 4, (some .int), yX9_leads, 9, [], 6, 135, [1, 1, 1]),
  (cX9_ask, 3, (some .int), yX9_ask, 9, [], 6, 135, [1, 1]),
  (cX9_law, 4, (some .int), yX9_law, 9, [], 2, 43, [1, 1, 1, 1]),
  (cX9_holds, 9, (some .int), yX9_holds, 9, [], 5, 119, [1, 1, 1, 1]),
  (cX9_broken, 10, (some .int), yX9_broken, 9, [], 5, 119, [1, 1, 1]),
  (cX9_mend, 9, (some .int), yX9_mend, 9, [], 5, 117, [1, 1, 1, 1, 1]),
  (cX9_like, 5, (some .int), yX9_like, 9, [], 5, 121, [1, 1, 1]),
  (cX9_nearest, 7, (some .int), yX9_nearest, 9, [], 5, 121, [1, 1]),
  (cX9_joined, 15, (some .int), yX9_joined, 9, [], 6, 146, [1, 1, 1, 1, 1, 1, 1]),
  (cX9_setOtherKeys, 6, none, yX9_setOtherKeys, 9, [], 5, 117, [1, 1, 1, 1])]
def m_tab3 : List m_R := [(cX9_pairsUpTo, 10, (some .int), yX9_pairsUpTo, 9, [], 5, 117, [1, 1, 1, 1, 1]),
  (cX9_key, 9, (some .int), yX9_key, 9, [], 5, 117, [1, 1, 1, 1, 1]),
  (cX9_count, 2, (some .int), yX9_count, 9, [], 2, 44, [1, 1]),
  (cX9_countOnPages, 5, (some .int), yX9_countOnPages, 9, [], 1, 20, [1, 1]),
  (cX9_digest, 5, (some .long), yX9_digest, 9, [1], 7, 172, [1]),
  (cX9_digestPage, 8, (some .long), yX9_digestPage, 9, [1, 5], 6, 145, [1, 2, 1]),
  (cX9_isIn, 2, (some .boolean), yX9_isIn, 9, [], 0, 0, [1, 1]),
  (cX9_leastOf, 1, (some .int), yX9_leastOf, 9, [], 0, 0, [1]),
  (cX9_nth, 4, (some .int), yX9_nth, 9, [], 1, 21, [1, 1]),
  (cX9_lengthOf, 1, (some .int), yX9_lengthOf, 9, [], 0, 0, [1]),
  (cX9_stepOf, 5, (some .int), yX9_stepOf, 9, [], 1, 20, [1, 1]),
  (cX10_init, 1, none, yX10_init, 10, [], 1, 20, [1]),
  (cX10_in, 6, (some .boolean), yX10_in, 10, [0, 2, 4], 0, 0, [2, 2, 2]),
  (cX10_bitsOf, 3, (some .int), yX10_bitsOf, 10, [], 0, 0, [1]),
  (cX10_has, 2, (some .boolean), yX10_has, 10, [], 0, 0, [1, 1]),
  (cX10_isPage, 2, (some .boolean), yX10_isPage, 10, [], 1, 25, [1, 1]),
  (cX10_isBox, 3, (some .boolean), yX10_isBox, 10, [], 2, 46, [1, 1, 1]),
  (cX10_letters, 9, (some .int), yX10_letters, 10, [1, 5], 0, 0, [1, 2]),
  (cX10_blank, 2, (some .int), yX10_blank, 10, [], 0, 0, [1]),
  (cX10_beginBox, 2, (some .boolean), yX10_beginBox, 10, [], 1, 25, [1, 1]),
  (cX10_goPage, 3, (some .boolean), yX10_goPage, 10, [], 2, 46, [1, 1]),
  (cX10_addStep, 2, none, yX10_addStep, 10, [], 0, 0, [1, 1]),
  (cX10_goRule, 2, (some .boolean), yX10_goRule, 10, [], 1, 25, [1, 1]),
  (cX10_faultOf, 3, (some .int), yX10_faultOf, 10, [], 3, 68, [1, 1]),
  (cX10_fault, 2, (some .int), yX10_fault, 10, [], 4, 90, [1, 1]),
  (cX10_page, 2, (some .int), yX10_page, 10, [], 4, 90, [1]),
  (cX10_rule, 3, (some .int), yX10_rule, 10, [], 4, 90, [1, 1]),
  (cX10_isRule, 2, (some .boolean), yX10_isRule, 10, [], 1, 25, [1, 1]),
  (cX10_as, 4, (some .int), yX10_as, 10, [], 2, 46, [1, 1, 1]),
  (cX10_innerMany, 5, (some .int), yX10_innerMany, 10, [], 0, 0, [1, 1, 1])]
def m_tab4 : List m_R := [(cX10_depth, 5, (some .int), yX10_depth, 10, [], 0, 0, [1, 1, 1]),
  (cX10_boxOf, 4, (some .int), yX10_boxOf, 10, [], 1, 24, [1, 1, 1, 1]),
  (cX10_box, 4, (some .int), yX10_box, 10, [], 3, 68, [1, 1, 1, 1]),
  (cX10_led, 10, (some .int), yX10_led, 10, [], 1, 24, [1, 1, 1, 1]),
  (cX10_placeIn, 5, (some .int), yX10_placeIn, 10, [], 0, 0, [1, 1, 1]),
  (cX10_aheadOf, 5, (some .int), yX10_aheadOf, 10, [], 0, 0, [1, 1, 1]),
  (cX10_givenFrom, 9, (some .int), yX10_givenFrom, 10, [], 2, 53, [1, 1, 1, 1]),
  (cX10_given, 3, (some .int), yX10_given, 10, [], 3, 81, [1, 1, 1]),
  (cX10_gives, 3, (some .int), yX10_gives, 10, [], 4, 103, [1, 1, 1]),
  (cX10_nth, 4, (some .int), yX10_nth, 10, [], 1, 21, [1, 1]),
  (cX10_word, 5, (some .int), yX10_word, 10, [], 4, 103, [1, 1, 1, 1]),
  (cX10_within, 4, (some .int), yX10_within, 10, [], 3, 81, [1, 1, 1, 1]),
  (cX10_mark, 5, (some .int), yX10_mark, 10, [], 3, 68, [1, 1, 1, 1]),
  (cX10_whole, 4, (some .int), yX10_whole, 10, [], 2, 46, [1, 1, 1]),
  (cX10_marked, 5, (some .int), yX10_marked, 10, [], 0, 0, [1, 1, 1]),
  (cX10_stepsOf, 1, (some .int), yX10_stepsOf, 10, [], 0, 0, [1]),
  (cX10_stepOf, 5, (some .int), yX10_stepOf, 10, [], 1, 20, [1, 1]),
  (cX10_asRule, 1, (some .int), yX10_asRule, 10, [], 0, 0, [1]),
  (cX10_layLeads, 4, none, yX10_layLeads, 10, [], 2, 53, [1, 1]),
  (cX10_leadsOn, 7, (some .int), yX10_leadsOn, 10, [], 2, 44, [1, 1]),
  (cX10_findFits, 6, none, yX10_findFits, 10, [], 3, 76, [1]),
  (cX10_findEvens, 5, none, yX10_findEvens, 10, [], 3, 76, [1]),
  (cX10_chosen, 5, (some .int), yX10_chosen, 10, [], 4, 101, [1, 1]),
  (cX10_fits, 3, (some .int), yX10_fits, 10, [], 5, 125, [1, 1]),
  (cX10_step, 4, (some .int), yX10_step, 10, [], 5, 125, [1, 1, 1]),
  (cX10_countLeads, 5, none, yX10_countLeads, 10, [], 3, 76, [1, 1]),
  (cX10_leads, 3, (some .int), yX10_leads, 10, [], 4, 101, [1, 1, 1]),
  (cX10_ask, 9, (some .int), yX10_ask, 10, [], 4, 101, [1, 1]),
  (cX10_law, 4, (some .int), yX10_law, 10, [], 1, 25, [1, 1, 1, 1]),
  (cX10_countWords, 4, none, yX10_countWords, 10, [], 1, 21, [1, 1, 1])]
def m_tab5 : List m_R := [(cX10_holdsAsBefore, 7, (some .boolean), yX10_holdsAsBefore, 10, [], 4, 103, [1, 1, 1, 1]),
  (cX10_holdsLaw, 7, (some .boolean), yX10_holdsLaw, 10, [], 5, 129, [1, 1, 1, 1]),
  (cX10_holds, 4, (some .int), yX10_holds, 10, [], 6, 155, [1, 1, 1, 1]),
  (cX10_brokenOf, 5, (some .int), yX10_brokenOf, 10, [], 6, 155, [1, 1, 1]),
  (cX10_broken, 3, (some .int), yX10_broken, 10, [], 7, 179, [1, 1, 1]),
  (cX10_likeness, 5, (some .int), yX10_likeness, 10, [], 2, 44, [1, 1, 1]),
  (cX10_mend, 13, (some .int), yX10_mend, 10, [], 4, 103, [1, 1, 1, 1, 1]),
  (cX10_innerOf, 6, (some .int), yX10_innerOf, 10, [], 0, 0, [1, 1, 1, 1]),
  (cX10_pairBest, 13, (some .int), yX10_pairBest, 10, [], 1, 25, [1, 1, 1, 1, 1]),
  (cX10_likeOf, 7, (some .int), yX10_likeOf, 10, [], 2, 57, [1, 1, 1]),
  (cX10_like, 3, (some .int), yX10_like, 10, [], 3, 83, [1, 1, 1]),
  (cX10_nearest, 6, (some .int), yX10_nearest, 10, [], 3, 83, [1, 1]),
  (cX10_firstWord, 5, (some .int), yX10_firstWord, 10, [], 3, 81, [1, 1, 1, 1]),
  (cX10_joined, 16, (some .int), yX10_joined, 10, [], 4, 105, [1, 1, 1, 1, 1, 1, 1]),
  (cX10_key, 6, (some .int), yX10_key, 10, [], 4, 105, [1, 1, 1, 1, 1]),
  (cX10_countOf, 4, (some .int), yX10_countOf, 10, [], 1, 24, [1, 1]),
  (cX10_count, 2, (some .int), yX10_count, 10, [], 2, 47, [1, 1]),
  (cX10_tell, 3, none, yX10_tell, 10, [1], 0, 0, [1, 2]),
  (cX10_digest, 3, (some .long), yX10_digest, 10, [], 7, 179, [1]),
  (cJ6_bitCount_0f7a4, 1, (some .int), yJ6_bitCount_0f7a4, 12, [], 0, 0, [1]),
  (cJ9_max_7cf53, 2, (some .int), yJ9_max_7cf53, 14, [], 0, 0, [1, 1]),
  (cJ9_min_7cf53, 2, (some .int), yJ9_min_7cf53, 14, [], 0, 0, [1, 1]),
  (cJ7_fill_53178, 4, none, yJ7_fill_53178, 13, [], 0, 0, [1, 1]),
  (cJ7_copyOf_59c91, 3, (some (.array .int)), yJ7_copyOf_59c91, 13, [], 1, 60, [1, 1]),
  (cL_law, 4, (some .boolean), yL_law, 11, [], 8, 201, [1])]
def m_tab : List m_R := m_tab0 ++ (m_tab1 ++ (m_tab2 ++ (m_tab3 ++ (m_tab4 ++ (m_tab5)))))
def m_row (m : Nat) : m_R := m_tab.getD m (⟨#[]⟩, 0, none, ⟨"", "", ""⟩, 0, [], 0, 0, [])
def m_code (m : Nat) : ByteArray := (m_row m).1
def m_maxL (m : Nat) : Nat := (m_row m).2.1
def m_ret (m : Nat) : Option FieldType := (m_row m).2.2.1
def m_nam (m : Nat) : MethodName := (m_row m).2.2.2.1
def m_own (m : Nat) : Nat := (m_row m).2.2.2.2.1
def m_LS (m : Nat) : List Nat := (m_row m).2.2.2.2.2.1
def m_fr (m : Nat) : Nat := (m_row m).2.2.2.2.2.2.1
def m_lo (m : Nat) : Nat := (m_row m).2.2.2.2.2.2.2.1
def m_wid (m : Nat) : List Nat := (m_row m).2.2.2.2.2.2.2.2
def m_cp : Nat := 173
def m_mx : Nat := 170
def m_law : Nat := 174
def m_oR : List String := [RX0, RX1, RX2, RX3, RX4, RX5, RX6, RX7, RX8, RX9, RX10, RL, RJ6, RJ7, RJ9]
def m_T (c : Nat) : u_T := match c with
  | 0 => TX0
  | 1 => TX1
  | 2 => TX2
  | 3 => TX3
  | 4 => TX4
  | 5 => TX5
  | 6 => TX7
  | 7 => TX8
  | 8 => TX9
  | _ => TX10
def m_ty (c : Nat) : Nat → FieldType := match c with
  | 0 => tyX0
  | 1 => tyX1
  | 2 => tyX2
  | 3 => tyX3
  | 4 => tyX4
  | 5 => tyX5
  | 6 => tyX7
  | 7 => tyX8
  | 8 => tyX9
  | _ => tyX10
def m_nf (c : Nat) : Nat := match c with
  | 0 => 7
  | 1 => 3
  | 2 => 4
  | 3 => 16
  | 4 => 8
  | 5 => 2
  | 6 => 2
  | 7 => 4
  | 8 => 15
  | _ => 38
def m_LF0 : List (Nat × Nat × (Nat × Nat) × Nat) := [(0, 9, (0, 5), 170), (0, 15, (0, 6), 172), (0, 18, (0, 0), 160), (0, 22, (0, 1), 162), (0, 25, (0, 2), 164), (0, 28, (0, 3), 166), (0, 54, (0, 4), 168), (0, 57, (3, 14), 427), (0, 84, (3, 0), 392), (0, 87, (3, 13), 423), (1, 9, (1, 0), 652), (1, 15, (1, 1), 654), (1, 18, (1, 2), 656), (1, 35, (3, 9), 413), (1, 47, (3, 0), 391), (1, 54, (3, 2), 400), (2, 14, (3, 14), 426), (2, 18, (2, 0), 194), (2, 24, (2, 1), 196), (2, 31, (2, 2), 198), (2, 34, (2, 3), 200), (3, 9, (3, 8), 411), (3, 15, (3, 14), 425), (3, 18, (4, 3), 108), (3, 24, (3, 0), 389), (3, 25, (4, 0), 103), (3, 34, (3, 1), 394), (3, 35, (4, 1), 105), (3, 38, (3, 2), 397), (3, 39, (4, 2), 107), (3, 42, (3, 3), 402), (3, 43, (3, 4), 404), (3, 46, (3, 5), 406), (3, 49, (3, 6), 409), (3, 52, (3, 7), 410), (3, 59, (3, 9), 412), (3, 62, (3, 10), 416), (3, 65, (3, 11), 418), (3, 72, (3, 12), 420), (3, 75, (3, 13), 422), (3, 92, (3, 15), 428), (4, 9, (4, 0), 102), (4, 15, (4, 1), 104), (4, 18, (4, 2), 106), (4, 21, (4, 3), 109), (4, 25, (4, 4), 110), (4, 28, (4, 5), 111), (4, 31, (4, 6), 112), (4, 35, (4, 7), 113), (5, 9, (5, 0), 217), (5, 15, (5, 1), 218), (5, 18, (3, 0), 390), (5, 28, (3, 1), 395), (5, 31, (3, 2), 398), (5, 34, (3, 5), 407), (7, 9, (6, 0), 475), (7, 15, (7, 0), 140), (7, 21, (7, 1), 141), (7, 30, (6, 1), 477), (7, 37, (3, 10), 417)]
def m_LF1 : List (Nat × Nat × (Nat × Nat) × Nat) := [(7, 44, (3, 9), 414), (7, 54, (3, 2), 399), (8, 9, (7, 0), 139), (8, 15, (7, 1), 142), (8, 19, (7, 2), 143), (8, 23, (7, 3), 144), (9, 9, (8, 0), 224), (9, 15, (8, 2), 226), (9, 21, (8, 4), 228), (9, 27, (8, 6), 230), (9, 34, (8, 8), 232), (9, 41, (8, 9), 233), (9, 48, (8, 10), 234), (9, 55, (8, 12), 236), (9, 62, (8, 13), 237), (9, 66, (8, 14), 238), (9, 74, (8, 1), 225), (9, 101, (8, 3), 227), (9, 107, (8, 11), 235), (9, 114, (8, 5), 229), (9, 120, (8, 7), 231), (9, 137, (3, 1), 396), (9, 140, (3, 2), 401), (9, 143, (3, 3), 403), (9, 146, (3, 5), 408), (9, 155, (3, 4), 405), (9, 173, (3, 13), 424), (9, 179, (0, 0), 161), (9, 182, (0, 1), 163), (9, 188, (0, 2), 165), (9, 191, (0, 3), 167), (9, 201, (0, 5), 171), (9, 204, (0, 4), 169), (9, 221, (3, 9), 415), (9, 231, (2, 1), 197), (9, 234, (2, 0), 195), (9, 237, (2, 3), 201), (9, 240, (2, 2), 199), (9, 262, (3, 0), 393), (9, 268, (3, 11), 419), (9, 271, (3, 12), 421), (9, 282, (6, 0), 476), (9, 291, (1, 0), 653), (9, 294, (1, 1), 655), (9, 297, (1, 2), 657), (10, 7, (9, 1), 800), (10, 13, (9, 2), 801), (10, 16, (9, 3), 802), (10, 19, (9, 4), 803), (10, 22, (9, 5), 804), (10, 25, (9, 6), 805), (10, 29, (9, 7), 806), (10, 32, (9, 11), 810), (10, 35, (9, 12), 811), (10, 38, (9, 13), 812), (10, 41, (9, 15), 814), (10, 44, (9, 18), 817), (10, 47, (9, 19), 818), (10, 50, (9, 20), 819), (10, 53, (9, 21), 820)]
def m_LF2 : List (Nat × Nat × (Nat × Nat) × Nat) := [(10, 56, (9, 22), 821), (10, 59, (9, 24), 823), (10, 62, (9, 25), 824), (10, 65, (9, 26), 825), (10, 68, (9, 28), 827), (10, 71, (9, 29), 828), (10, 74, (9, 30), 829), (10, 77, (9, 31), 830), (10, 80, (9, 32), 831), (10, 83, (9, 33), 832), (10, 86, (9, 34), 833), (10, 89, (9, 35), 834), (10, 92, (9, 36), 835), (10, 95, (9, 10), 809), (10, 99, (9, 0), 799), (10, 112, (9, 8), 807), (10, 119, (9, 14), 813), (10, 122, (9, 9), 808), (10, 132, (9, 16), 815), (10, 151, (9, 17), 816), (10, 213, (9, 23), 822), (10, 235, (9, 27), 826), (10, 280, (9, 37), 836)]
def m_LF : List (Nat × Nat × (Nat × Nat) × Nat) := m_LF0 ++ (m_LF1 ++ (m_LF2))
def m_LI0 : List (Nat × Nat × Int32 × Nat) := [(12, 265, 1431655765, 510), (12, 266, 858993459, 511), (12, 267, 252645135, 512)]
def m_LI : List (Nat × Nat × Int32 × Nat) := m_LI0
def m_LJ0 : List (Nat × Nat × Int64 × Nat) := [(9, 78, 255, 277), (9, 274, 331, 783), (9, 280, 31, 788), (10, 110, 255, 919), (10, 115, 97, 943), (10, 117, 101, 944), (10, 128, 48, 945), (10, 130, 57, 946), (10, 149, 5, 963), (10, 193, 2, 1038), (10, 225, 3, 1047), (10, 233, 99, 1104), (10, 252, 10, 1133), (10, 254, 12, 1134), (10, 270, 69, 1163), (10, 278, 31, 1189), (10, 284, 331, 1184), (11, 13, 4294967295, 1190)]
def m_LJ : List (Nat × Nat × Int64 × Nat) := m_LJ0
def m_LC0 : List (Nat × Nat × Nat × Nat) := [(9, 13, 3, 87), (9, 19, 6, 89), (9, 25, 1, 91), (9, 31, 4, 93), (9, 38, 7, 133), (9, 45, 0, 154), (9, 52, 2, 188), (9, 59, 5, 211), (11, 7, 8, 79), (11, 10, 9, 793)]
def m_LC : List (Nat × Nat × Nat × Nat) := m_LC0
def m_LT0 : List (Nat × Nat × (Nat × Nat) × Nat × (Nat × Nat × Nat × Nat)) := [(0, 31, (172, 2), 0, (584, 585, 73, 586)), (0, 42, (2, 3), 0, (592, 593, 68, 594)), (0, 68, (169, 1), 0, (607, 508, 77, 509)), (0, 78, (170, 2), 0, (612, 613, 74, 614)), (1, 21, (169, 1), 0, (677, 508, 77, 509)), (1, 50, (96, 2), 1, (686, 526, 64, 527)), (2, 27, (14, 3), 0, (717, 718, 69, 719)), (2, 42, (169, 1), 0, (721, 508, 77, 509)), (3, 28, (173, 2), 0, (369, 370, 73, 371)), (3, 68, (96, 2), 1, (525, 526, 64, 527)), (3, 85, (97, 1), 1, (536, 537, 64, 538)), (4, 38, (45, 1), 2, (305, 307, 65, 308)), (4, 45, (46, 1), 2, (313, 315, 65, 316)), (5, 41, (172, 2), 0, (738, 585, 73, 586)), (5, 47, (96, 2), 1, (739, 526, 64, 527)), (5, 54, (170, 2), 0, (744, 613, 74, 614)), (7, 24, (173, 2), 0, (474, 370, 73, 371)), (7, 40, (97, 1), 1, (543, 537, 64, 538)), (7, 51, (98, 2), 1, (762, 549, 64, 550)), (8, 26, (45, 1), 2, (336, 307, 65, 308)), (8, 33, (46, 1), 2, (342, 315, 65, 316)), (8, 36, (55, 1), 0, (344, 345, 67, 346)), (9, 70, (59, 2), 0, (274, 275, 64, 276)), (9, 111, (66, 1), 0, (466, 467, 64, 468)), (9, 149, (169, 1), 0, (507, 508, 77, 509)), (9, 162, (98, 2), 0, (548, 549, 64, 550)), (9, 185, (99, 1), 0, (624, 625, 64, 626)), (9, 198, (100, 2), 0, (631, 632, 64, 633)), (9, 258, (96, 2), 0, (551, 526, 64, 527)), (10, 102, (102, 3), 0, (928, 929, 71, 930)), (10, 172, (104, 2), 0, (1012, 1013, 71, 1014)), (10, 190, (129, 2), 0, (1027, 1028, 71, 1029)), (10, 195, (135, 1), 0, (1071, 1072, 71, 1073)), (10, 198, (137, 1), 0, (1060, 1061, 71, 1062)), (10, 201, (136, 2), 0, (1074, 1075, 71, 1076)), (10, 216, (103, 1), 0, (1081, 1082, 71, 1083))]
def m_LT : List (Nat × Nat × (Nat × Nat) × Nat × (Nat × Nat × Nat × Nat)) := m_LT0
def m_LV0 : List (Nat × Nat × (Nat × List (Nat × Nat)) × Nat × MethodName × (Nat × List (Nat × Nat × Nat × Nat) × Nat × Nat)) := [(0, 37, (0, [(3, 26)]), 0, ⟨"RowsDrawn$Page", "drawSentences", "()V"⟩, (587, [(588, 589, 72, 590)], 0, 0)), (0, 46, (3, [(0, 3)]), 0, ⟨"RowsDrawn$Fitting", "takeIn", "([LRowsDrawn$Page;II)V"⟩, (599, [(601, 15, 68, 602)], 0, 0)), (0, 50, (2, [(0, 6)]), 0, ⟨"RowsDrawn$Fitting", "bestToAsk", "([LRowsDrawn$Page;I)I"⟩, (615, [(617, 17, 68, 618)], 0, 0)), (0, 60, (1, [(3, 21)]), 0, ⟨"RowsDrawn$Page", "isMet", "(I)Z"⟩, (595, [(596, 597, 72, 598)], 0, 0)), (0, 64, (3, [(0, 4)]), 0, ⟨"RowsDrawn$Fitting", "evenOf", "([LRowsDrawn$Page;II)I"⟩, (603, [(605, 16, 68, 606)], 0, 0)), (0, 74, (0, [(3, 20)]), 0, ⟨"RowsDrawn$Page", "isUnmarked", "()Z"⟩, (608, [(609, 610, 72, 611)], 0, 0)), (0, 91, (1, [(3, 18)]), 0, ⟨"RowsDrawn$Page", "markOf", "(I)I"⟩, (619, [(561, 562, 72, 563)], 0, 0)), (0, 94, (1, [(0, 5)]), 0, ⟨"RowsDrawn$Fitting", "greaterPart", "(I)I"⟩, (620, [(621, 622, 68, 623)], 0, 0)), (1, 27, (1, [(1, 9)]), 0, ⟨"RowsDrawn$Law", "isBetween", "(I)Z"⟩, (678, [(680, 19, 78, 681)], 0, 0)), (1, 31, (2, [(1, 10)]), 0, ⟨"RowsDrawn$Law", "wordsAreBetween", "(LRowsDrawn$Page;I)Z"⟩, (682, [(684, 20, 78, 685)], 0, 0)), (1, 40, (1, [(3, 27)]), 0, ⟨"RowsDrawn$Page", "unlikeWords", "(I)I"⟩, (687, [(688, 689, 72, 690)], 0, 0)), (1, 43, (4, [(1, 11)]), 0, ⟨"RowsDrawn$Law", "isAsBefore", "(LRowsDrawn$Page;ILRowsDrawn$Page;I)Z"⟩, (691, [(693, 21, 78, 694)], 0, 0)), (1, 58, (3, [(3, 29)]), 0, ⟨"RowsDrawn$Page", "sharedWords", "(ILRowsDrawn$Page;I)I"⟩, (695, [(696, 697, 72, 698)], 0, 0)), (2, 9, (0, [(3, 26)]), 0, ⟨"RowsDrawn$Page", "drawSentences", "()V"⟩, (716, [(588, 589, 72, 590)], 0, 0)), (2, 38, (1, [(3, 27)]), 0, ⟨"RowsDrawn$Page", "unlikeWords", "(I)I"⟩, (720, [(688, 689, 72, 690)], 0, 0)), (3, 55, (2, [(3, 16)]), 0, ⟨"RowsDrawn$Page", "firstWith", "(II)I"⟩, (385, [(387, 8, 72, 388)], 0, 0)), (3, 79, (2, [(3, 23)]), 0, ⟨"RowsDrawn$Page", "ledFrom", "(II)I"⟩, (528, [(530, 11, 72, 531)], 0, 0)), (3, 82, (2, [(3, 24)]), 0, ⟨"RowsDrawn$Page", "innerFrom", "(II)I"⟩, (532, [(534, 12, 72, 535)], 0, 0)), (3, 89, (1, [(3, 25)]), 0, ⟨"RowsDrawn$Page", "innerBehind", "(I)I"⟩, (539, [(541, 13, 72, 542)], 0, 0)), (3, 95, (2, [(3, 22)]), 0, ⟨"RowsDrawn$Page", "led", "(II)I"⟩, (591, [(522, 523, 72, 524)], 0, 0)), (3, 98, (2, [(3, 28)]), 0, ⟨"RowsDrawn$Page", "hasWord", "(II)Z"⟩, (699, [(700, 701, 72, 702)], 0, 0)), (4, 42, (1, [(4, 34)]), 0, ⟨"RowsDrawn$PageReader", "takesKind", "(I)Z"⟩, (309, [(311, 1, 66, 312)], 0, 0)), (4, 48, (1, [(4, 36)]), 0, ⟨"RowsDrawn$PageReader", "takesDigit", "(I)Z"⟩, (317, [(319, 2, 66, 320)], 0, 0)), (4, 51, (0, [(4, 37)]), 0, ⟨"RowsDrawn$PageReader", "takesOpening", "()Z"⟩, (325, [(327, 4, 66, 328)], 0, 0)), (4, 55, (0, [(4, 38)]), 0, ⟨"RowsDrawn$PageReader", "takesClosing", "()Z"⟩, (329, [(331, 5, 66, 332)], 0, 0)), (4, 58, (0, [(4, 35)]), 0, ⟨"RowsDrawn$PageReader", "lastBoxGoesOn", "()Z"⟩, (321, [(323, 3, 66, 324)], 0, 0)), (5, 24, (4, [(5, 41)]), 0, ⟨"RowsDrawn$Pairing", "likeOfBoxes", "(LRowsDrawn$Page;ILRowsDrawn$Page;I)I"⟩, (730, [(732, 22, 70, 733)], 0, 0)), (5, 37, (2, [(5, 42)]), 0, ⟨"RowsDrawn$Pairing", "likeWithin", "(II)I"⟩, (734, [(736, 23, 70, 737)], 0, 0)), (5, 51, (2, [(5, 43)]), 0, ⟨"RowsDrawn$Pairing", "pairOneMore", "(II)I"⟩, (740, [(742, 24, 70, 743)], 0, 0)), (7, 31, (2, [(3, 22)]), 0, ⟨"RowsDrawn$Page", "led", "(II)I"⟩, (521, [(522, 523, 72, 524)], 0, 0)), (7, 47, (2, [(6, 49)]), 0, ⟨"RowsDrawn$Rule", "drawn", "(LRowsDrawn$Page;I)I"⟩, (761, [(518, 519, 76, 520)], 0, 0)), (8, 30, (1, [(7, 56)]), 0, ⟨"RowsDrawn$RuleReader", "takesStep", "(I)Z"⟩, (338, [(340, 6, 67, 341)], 0, 0)), (9, 80, (1, [(8, 62)]), 0, ⟨"RowsDrawn", "readSheet", "(LRowsDrawn$Reader;)I"⟩, (286, [(288, 0, 64, 289)], 0, 0)), (9, 84, (0, [(4, 31), (7, 52)]), 1, ⟨"RowsDrawn$Reader", "restart", "()V"⟩, (290, [(294, 293, 66, 295), (297, 296, 67, 298)], 292, 291)), (9, 89, (1, [(4, 33), (7, 54)]), 1, ⟨"RowsDrawn$Reader", "takes", "(I)Z"⟩, (299, [(303, 302, 66, 304), (334, 333, 67, 335)], 301, 300)), (9, 93, (0, [(4, 32), (7, 53)]), 1, ⟨"RowsDrawn$Reader", "atEnd", "()Z"⟩, (355, [(359, 358, 66, 360), (362, 361, 67, 363)], 357, 356)), (9, 97, (1, [(8, 63)]), 0, ⟨"RowsDrawn", "sheetIsRead", "(LRowsDrawn$Reader;)Z"⟩, (351, [(353, 7, 64, 354)], 0, 0)), (9, 123, (1, [(8, 68)]), 0, ⟨"RowsDrawn", "ruleAt", "(I)LRowsDrawn$Rule;"⟩, (487, [(489, 9, 64, 490)], 0, 0)), (9, 127, (1, [(6, 48)]), 0, ⟨"RowsDrawn$Rule", "isOf", "(I)Z"⟩, (491, [(492, 493, 76, 494)], 0, 0)), (9, 130, (1, [(8, 67)]), 0, ⟨"RowsDrawn", "pageAt", "(I)LRowsDrawn$Page;"⟩, (499, [(501, 10, 64, 502)], 0, 0))]
def m_LV1 : List (Nat × Nat × (Nat × List (Nat × Nat)) × Nat × MethodName × (Nat × List (Nat × Nat × Nat × Nat) × Nat × Nat)) := [(9, 134, (1, [(3, 17)]), 0, ⟨"RowsDrawn$Page", "has", "(I)Z"⟩, (503, [(504, 505, 72, 506)], 0, 0)), (9, 158, (2, [(6, 49)]), 0, ⟨"RowsDrawn$Rule", "drawn", "(LRowsDrawn$Page;I)I"⟩, (517, [(518, 519, 76, 520)], 0, 0)), (9, 166, (1, [(3, 18)]), 0, ⟨"RowsDrawn$Page", "markOf", "(I)I"⟩, (560, [(561, 562, 72, 563)], 0, 0)), (9, 169, (2, [(3, 19)]), 0, ⟨"RowsDrawn$Page", "setMark", "(II)V"⟩, (564, [(565, 566, 72, 567)], 0, 0)), (9, 176, (0, [(8, 78)]), 0, ⟨"RowsDrawn", "refreshFitting", "()V"⟩, (576, [(578, 14, 64, 579)], 0, 0)), (9, 194, (2, [(0, 1)]), 0, ⟨"RowsDrawn$Fitting", "workOut", "([LRowsDrawn$Page;I)V"⟩, (580, [(581, 582, 68, 583)], 0, 0)), (9, 207, (1, [(0, 5)]), 0, ⟨"RowsDrawn$Fitting", "greaterPart", "(I)I"⟩, (642, [(621, 622, 68, 623)], 0, 0)), (9, 213, (1, [(8, 69)]), 0, ⟨"RowsDrawn", "lawAt", "(I)LRowsDrawn$Law;"⟩, (669, [(671, 18, 64, 672)], 0, 0)), (9, 217, (4, [(1, 8)]), 0, ⟨"RowsDrawn$Law", "isKept", "(LRowsDrawn$Page;ILRowsDrawn$Page;I)Z"⟩, (673, [(674, 675, 78, 676)], 0, 0)), (9, 224, (3, [(3, 29)]), 0, ⟨"RowsDrawn$Page", "sharedWords", "(ILRowsDrawn$Page;I)I"⟩, (711, [(696, 697, 72, 698)], 0, 0)), (9, 228, (2, [(2, 13)]), 0, ⟨"RowsDrawn$Mending", "workOut", "(LRowsDrawn$Page;I)V"⟩, (712, [(713, 714, 69, 715)], 0, 0)), (9, 243, (2, [(5, 40)]), 0, ⟨"RowsDrawn$Pairing", "likeOf", "(LRowsDrawn$Page;LRowsDrawn$Page;)I"⟩, (726, [(727, 728, 70, 729)], 0, 0)), (9, 247, (3, [(8, 89)]), 0, ⟨"RowsDrawn", "setOtherKeys", "(LRowsDrawn$Rule;LRowsDrawn$Rule;LRowsDrawn$Page;)V"⟩, (753, [(755, 25, 64, 756)], 0, 0)), (9, 251, (4, [(8, 90)]), 0, ⟨"RowsDrawn", "pairsUpTo", "(LRowsDrawn$Rule;LRowsDrawn$Rule;LRowsDrawn$Page;I)I"⟩, (763, [(765, 26, 64, 766)], 0, 0)), (9, 255, (2, [(6, 50)]), 0, ⟨"RowsDrawn$Rule", "firstWord", "(LRowsDrawn$Page;I)I"⟩, (757, [(758, 759, 76, 760)], 0, 0)), (9, 265, (1, [(8, 93)]), 0, ⟨"RowsDrawn", "countOnPages", "(I)I"⟩, (775, [(777, 27, 64, 778)], 0, 0)), (9, 276, (2, [(8, 95)]), 0, ⟨"RowsDrawn", "digestPage", "(JI)J"⟩, (784, [(786, 28, 64, 787)], 0, 0)), (9, 285, (2, [(8, 72)]), 0, ⟨"RowsDrawn", "gives", "(II)I"⟩, (790, [(514, 515, 64, 516)], 0, 0)), (9, 288, (2, [(8, 84)]), 0, ⟨"RowsDrawn", "broken", "(II)I"⟩, (791, [(704, 705, 64, 706)], 0, 0)), (9, 300, (1, [(8, 92)]), 0, ⟨"RowsDrawn", "count", "(I)I"⟩, (792, [(772, 773, 64, 774)], 0, 0)), (9, 303, (2, [(8, 86)]), 0, ⟨"RowsDrawn", "like", "(II)I"⟩, (789, [(723, 724, 64, 725)], 0, 0)), (10, 106, (1, [(9, 105)]), 0, ⟨"RowsDrawnModel", "isPage", "(I)Z"⟩, (980, [(982, 36, 71, 983)], 0, 0)), (10, 125, (1, [(9, 109)]), 0, ⟨"RowsDrawnModel", "beginBox", "(I)Z"⟩, (939, [(941, 31, 71, 942)], 0, 0)), (10, 135, (1, [(9, 111)]), 0, ⟨"RowsDrawnModel", "addStep", "(I)V"⟩, (951, [(953, 33, 71, 954)], 0, 0)), (10, 139, (1, [(9, 110)]), 0, ⟨"RowsDrawnModel", "goPage", "(I)Z"⟩, (935, [(937, 30, 71, 938)], 0, 0)), (10, 142, (1, [(9, 112)]), 0, ⟨"RowsDrawnModel", "goRule", "(I)Z"⟩, (947, [(949, 32, 71, 950)], 0, 0)), (10, 145, (1, [(9, 113)]), 0, ⟨"RowsDrawnModel", "faultOf", "(I)I"⟩, (931, [(933, 29, 71, 934)], 0, 0)), (10, 154, (1, [(9, 117)]), 0, ⟨"RowsDrawnModel", "isRule", "(I)Z"⟩, (968, [(970, 34, 71, 971)], 0, 0)), (10, 157, (2, [(9, 119)]), 0, ⟨"RowsDrawnModel", "innerMany", "(II)I"⟩, (988, [(990, 38, 71, 991)], 0, 0)), (10, 161, (2, [(9, 120)]), 0, ⟨"RowsDrawnModel", "depth", "(II)I"⟩, (992, [(994, 39, 71, 995)], 0, 0)), (10, 164, (2, [(9, 106)]), 0, ⟨"RowsDrawnModel", "isBox", "(II)Z"⟩, (976, [(978, 35, 71, 979)], 0, 0)), (10, 168, (3, [(9, 121)]), 0, ⟨"RowsDrawnModel", "boxOf", "(III)I"⟩, (984, [(986, 37, 71, 987)], 0, 0)), (10, 175, (2, [(9, 124)]), 0, ⟨"RowsDrawnModel", "placeIn", "(II)I"⟩, (1015, [(1017, 43, 71, 1018)], 0, 0)), (10, 178, (2, [(9, 125)]), 0, ⟨"RowsDrawnModel", "aheadOf", "(II)I"⟩, (1019, [(1021, 44, 71, 1022)], 0, 0)), (10, 181, (3, [(9, 123)]), 0, ⟨"RowsDrawnModel", "led", "(III)I"⟩, (1008, [(1010, 42, 71, 1011)], 0, 0)), (10, 184, (3, [(9, 126)]), 0, ⟨"RowsDrawnModel", "givenFrom", "(III)I"⟩, (1004, [(1006, 41, 71, 1007)], 0, 0)), (10, 187, (2, [(9, 127)]), 0, ⟨"RowsDrawnModel", "given", "(II)I"⟩, (1000, [(1002, 40, 71, 1003)], 0, 0)), (10, 204, (1, [(9, 138)]), 0, ⟨"RowsDrawnModel", "layLeads", "(I)V"⟩, (1056, [(1058, 47, 71, 1059)], 0, 0)), (10, 207, (2, [(9, 134)]), 0, ⟨"RowsDrawnModel", "marked", "(II)I"⟩, (1063, [(1065, 48, 71, 1066)], 0, 0)), (10, 210, (1, [(9, 139)]), 0, ⟨"RowsDrawnModel", "leadsOn", "(I)I"⟩, (1067, [(1069, 49, 71, 1070)], 0, 0))]
def m_LV2 : List (Nat × Nat × (Nat × List (Nat × Nat)) × Nat × MethodName × (Nat × List (Nat × Nat × Nat × Nat) × Nat × Nat)) := [(10, 219, (0, [(9, 140)]), 0, ⟨"RowsDrawnModel", "findFits", "()V"⟩, (1052, [(1054, 46, 71, 1055)], 0, 0)), (10, 222, (0, [(9, 141)]), 0, ⟨"RowsDrawnModel", "findEvens", "()V"⟩, (1077, [(1079, 50, 71, 1080)], 0, 0)), (10, 227, (1, [(9, 142)]), 0, ⟨"RowsDrawnModel", "chosen", "(I)I"⟩, (1048, [(1050, 45, 71, 1051)], 0, 0)), (10, 230, (1, [(9, 145)]), 0, ⟨"RowsDrawnModel", "countLeads", "(I)V"⟩, (1092, [(1094, 51, 71, 1095)], 0, 0)), (10, 238, (2, [(9, 149)]), 0, ⟨"RowsDrawnModel", "countWords", "(II)V"⟩, (1117, [(1119, 54, 71, 1120)], 0, 0)), (10, 242, (3, [(9, 150)]), 0, ⟨"RowsDrawnModel", "holdsAsBefore", "(III)Z"⟩, (1113, [(1115, 53, 71, 1116)], 0, 0)), (10, 246, (3, [(9, 151)]), 0, ⟨"RowsDrawnModel", "holdsLaw", "(III)Z"⟩, (1109, [(1111, 52, 71, 1112)], 0, 0)), (10, 249, (2, [(9, 153)]), 0, ⟨"RowsDrawnModel", "brokenOf", "(II)I"⟩, (1125, [(1127, 55, 71, 1128)], 0, 0)), (10, 256, (2, [(9, 155)]), 0, ⟨"RowsDrawnModel", "likeness", "(II)I"⟩, (1135, [(1137, 56, 71, 1138)], 0, 0)), (10, 259, (3, [(9, 157)]), 0, ⟨"RowsDrawnModel", "innerOf", "(II[I)I"⟩, (1151, [(1153, 59, 71, 1154)], 0, 0)), (10, 263, (4, [(9, 158)]), 0, ⟨"RowsDrawnModel", "pairBest", "(IIII)I"⟩, (1147, [(1149, 58, 71, 1150)], 0, 0)), (10, 267, (2, [(9, 159)]), 0, ⟨"RowsDrawnModel", "likeOf", "(II)I"⟩, (1143, [(1145, 57, 71, 1146)], 0, 0)), (10, 272, (3, [(9, 162)]), 0, ⟨"RowsDrawnModel", "firstWord", "(III)I"⟩, (1164, [(1166, 60, 71, 1167)], 0, 0)), (10, 275, (1, [(9, 165)]), 0, ⟨"RowsDrawnModel", "countOf", "(I)I"⟩, (1176, [(1178, 61, 71, 1179)], 0, 0)), (10, 286, (1, [(9, 167)]), 0, ⟨"RowsDrawnModel", "tell", "(J)V"⟩, (1185, [(1187, 62, 71, 1188)], 0, 0)), (11, 15, (1, [(8, 58)]), 0, ⟨"RowsDrawn", "letters", "(J)I"⟩, (270, [(271, 272, 64, 273)], 0, 0)), (11, 19, (1, [(9, 107)]), 0, ⟨"RowsDrawnModel", "letters", "(J)I"⟩, (915, [(916, 917, 71, 918)], 0, 0)), (11, 20, (0, [(8, 60)]), 0, ⟨"RowsDrawn", "blank", "()I"⟩, (278, [(279, 280, 64, 281)], 0, 0)), (11, 24, (0, [(9, 108)]), 0, ⟨"RowsDrawnModel", "blank", "()I"⟩, (920, [(921, 922, 71, 923)], 0, 0)), (11, 25, (1, [(8, 61)]), 0, ⟨"RowsDrawn", "fault", "(I)I"⟩, (282, [(283, 284, 64, 285)], 0, 0)), (11, 29, (1, [(9, 114)]), 0, ⟨"RowsDrawnModel", "fault", "(I)I"⟩, (924, [(925, 926, 71, 927)], 0, 0)), (11, 30, (0, [(8, 64)]), 0, ⟨"RowsDrawn", "page", "()I"⟩, (347, [(348, 349, 64, 350)], 0, 0)), (11, 33, (0, [(9, 115)]), 0, ⟨"RowsDrawnModel", "page", "()I"⟩, (955, [(956, 957, 71, 958)], 0, 0)), (11, 34, (1, [(8, 65)]), 0, ⟨"RowsDrawn", "rule", "(I)I"⟩, (462, [(463, 464, 64, 465)], 0, 0)), (11, 37, (1, [(9, 116)]), 0, ⟨"RowsDrawnModel", "rule", "(I)I"⟩, (959, [(960, 961, 71, 962)], 0, 0)), (11, 38, (2, [(8, 70)]), 0, ⟨"RowsDrawn", "as", "(II)I"⟩, (483, [(484, 485, 64, 486)], 0, 0)), (11, 42, (2, [(9, 118)]), 0, ⟨"RowsDrawnModel", "as", "(II)I"⟩, (964, [(965, 966, 71, 967)], 0, 0)), (11, 43, (3, [(8, 71)]), 0, ⟨"RowsDrawn", "box", "(III)I"⟩, (495, [(496, 497, 64, 498)], 0, 0)), (11, 47, (3, [(9, 122)]), 0, ⟨"RowsDrawnModel", "box", "(III)I"⟩, (972, [(973, 974, 71, 975)], 0, 0)), (11, 48, (2, [(8, 72)]), 0, ⟨"RowsDrawn", "gives", "(II)I"⟩, (513, [(514, 515, 64, 516)], 0, 0)), (11, 51, (2, [(9, 128)]), 0, ⟨"RowsDrawnModel", "gives", "(II)I"⟩, (996, [(997, 998, 71, 999)], 0, 0)), (11, 52, (3, [(8, 73)]), 0, ⟨"RowsDrawn", "word", "(III)I"⟩, (544, [(545, 546, 64, 547)], 0, 0)), (11, 55, (3, [(9, 130)]), 0, ⟨"RowsDrawnModel", "word", "(III)I"⟩, (1023, [(1024, 1025, 71, 1026)], 0, 0)), (11, 56, (3, [(8, 74)]), 0, ⟨"RowsDrawn", "within", "(III)I"⟩, (552, [(553, 554, 64, 555)], 0, 0)), (11, 59, (3, [(9, 131)]), 0, ⟨"RowsDrawnModel", "within", "(III)I"⟩, (1030, [(1031, 1032, 71, 1033)], 0, 0)), (11, 60, (3, [(8, 75)]), 0, ⟨"RowsDrawn", "mark", "(III)I"⟩, (556, [(557, 558, 64, 559)], 0, 0)), (11, 63, (3, [(9, 132)]), 0, ⟨"RowsDrawnModel", "mark", "(III)I"⟩, (1034, [(1035, 1036, 71, 1037)], 0, 0)), (11, 64, (2, [(8, 76)]), 0, ⟨"RowsDrawn", "whole", "(IZ)I"⟩, (568, [(569, 570, 64, 571)], 0, 0)), (11, 68, (2, [(9, 133)]), 0, ⟨"RowsDrawnModel", "whole", "(IZ)I"⟩, (1039, [(1040, 1041, 71, 1042)], 0, 0)), (11, 69, (1, [(8, 77)]), 0, ⟨"RowsDrawn", "fits", "(I)I"⟩, (572, [(573, 574, 64, 575)], 0, 0))]
def m_LV3 : List (Nat × Nat × (Nat × List (Nat × Nat)) × Nat × MethodName × (Nat × List (Nat × Nat × Nat × Nat) × Nat × Nat)) := [(11, 72, (1, [(9, 143)]), 0, ⟨"RowsDrawnModel", "fits", "(I)I"⟩, (1043, [(1044, 1045, 71, 1046)], 0, 0)), (11, 73, (2, [(8, 79)]), 0, ⟨"RowsDrawn", "step", "(II)I"⟩, (627, [(628, 629, 64, 630)], 0, 0)), (11, 76, (2, [(9, 144)]), 0, ⟨"RowsDrawnModel", "step", "(II)I"⟩, (1084, [(1085, 1086, 71, 1087)], 0, 0)), (11, 77, (2, [(8, 80)]), 0, ⟨"RowsDrawn", "leads", "(II)I"⟩, (634, [(635, 636, 64, 637)], 0, 0)), (11, 80, (2, [(9, 146)]), 0, ⟨"RowsDrawnModel", "leads", "(II)I"⟩, (1088, [(1089, 1090, 71, 1091)], 0, 0)), (11, 81, (1, [(8, 81)]), 0, ⟨"RowsDrawn", "ask", "(I)I"⟩, (638, [(639, 640, 64, 641)], 0, 0)), (11, 84, (1, [(9, 147)]), 0, ⟨"RowsDrawnModel", "ask", "(I)I"⟩, (1096, [(1097, 1098, 71, 1099)], 0, 0)), (11, 85, (3, [(8, 82)]), 0, ⟨"RowsDrawn", "law", "(III)I"⟩, (643, [(644, 645, 64, 646)], 0, 0)), (11, 88, (3, [(9, 148)]), 0, ⟨"RowsDrawnModel", "law", "(III)I"⟩, (1100, [(1101, 1102, 71, 1103)], 0, 0)), (11, 89, (3, [(8, 83)]), 0, ⟨"RowsDrawn", "holds", "(III)I"⟩, (665, [(666, 667, 64, 668)], 0, 0)), (11, 92, (3, [(9, 152)]), 0, ⟨"RowsDrawnModel", "holds", "(III)I"⟩, (1105, [(1106, 1107, 71, 1108)], 0, 0)), (11, 93, (2, [(8, 84)]), 0, ⟨"RowsDrawn", "broken", "(II)I"⟩, (703, [(704, 705, 64, 706)], 0, 0)), (11, 96, (2, [(9, 154)]), 0, ⟨"RowsDrawnModel", "broken", "(II)I"⟩, (1121, [(1122, 1123, 71, 1124)], 0, 0)), (11, 97, (4, [(8, 85)]), 0, ⟨"RowsDrawn", "mend", "(IIII)I"⟩, (707, [(708, 709, 64, 710)], 0, 0)), (11, 101, (4, [(9, 156)]), 0, ⟨"RowsDrawnModel", "mend", "(IIII)I"⟩, (1129, [(1130, 1131, 71, 1132)], 0, 0)), (11, 102, (2, [(8, 86)]), 0, ⟨"RowsDrawn", "like", "(II)I"⟩, (722, [(723, 724, 64, 725)], 0, 0)), (11, 105, (2, [(9, 160)]), 0, ⟨"RowsDrawnModel", "like", "(II)I"⟩, (1139, [(1140, 1141, 71, 1142)], 0, 0)), (11, 106, (1, [(8, 87)]), 0, ⟨"RowsDrawn", "nearest", "(I)I"⟩, (745, [(746, 747, 64, 748)], 0, 0)), (11, 109, (1, [(9, 161)]), 0, ⟨"RowsDrawnModel", "nearest", "(I)I"⟩, (1155, [(1156, 1157, 71, 1158)], 0, 0)), (11, 110, (6, [(8, 88)]), 0, ⟨"RowsDrawn", "joined", "(IIIIII)I"⟩, (749, [(750, 751, 64, 752)], 0, 0)), (11, 114, (6, [(9, 163)]), 0, ⟨"RowsDrawnModel", "joined", "(IIIIII)I"⟩, (1159, [(1160, 1161, 71, 1162)], 0, 0)), (11, 115, (4, [(8, 91)]), 0, ⟨"RowsDrawn", "key", "(IIII)I"⟩, (767, [(768, 769, 64, 770)], 0, 0)), (11, 118, (4, [(9, 164)]), 0, ⟨"RowsDrawnModel", "key", "(IIII)I"⟩, (1168, [(1169, 1170, 71, 1171)], 0, 0)), (11, 119, (1, [(8, 92)]), 0, ⟨"RowsDrawn", "count", "(I)I"⟩, (771, [(772, 773, 64, 774)], 0, 0)), (11, 122, (1, [(9, 166)]), 0, ⟨"RowsDrawnModel", "count", "(I)I"⟩, (1172, [(1173, 1174, 71, 1175)], 0, 0)), (11, 123, (0, [(8, 94)]), 0, ⟨"RowsDrawn", "digest", "()J"⟩, (779, [(780, 781, 64, 782)], 0, 0)), (11, 127, (0, [(9, 168)]), 0, ⟨"RowsDrawnModel", "digest", "()J"⟩, (1180, [(1181, 1182, 71, 1183)], 0, 0))]
def m_LV : List (Nat × Nat × (Nat × List (Nat × Nat)) × Nat × MethodName × (Nat × List (Nat × Nat × Nat × Nat) × Nat × Nat)) := m_LV0 ++ (m_LV1 ++ (m_LV2 ++ (m_LV3)))
def m_LP0 : List (Nat × Nat × Option (Nat × Nat) × Nat × (Nat × Nat × Nat × Nat)) := [(0, 3, none, 2, (159, 0, 0, 0)), (1, 3, none, 2, (651, 0, 0, 0)), (2, 3, none, 2, (193, 0, 0, 0)), (3, 3, none, 2, (368, 0, 0, 0)), (4, 3, some (44, 0), 1, (98, 99, 65, 100)), (5, 3, none, 2, (216, 0, 0, 0)), (6, 1, none, 2, (101, 0, 0, 0)), (7, 3, none, 2, (473, 0, 0, 0)), (8, 3, some (44, 0), 1, (138, 99, 65, 100)), (9, 3, none, 2, (84, 0, 0, 0)), (9, 33, some (30, 0), 1, (95, 96, 66, 97)), (9, 40, some (51, 0), 1, (135, 136, 67, 137)), (9, 47, some (0, 0), 1, (156, 157, 68, 158)), (9, 54, some (12, 0), 1, (190, 191, 69, 192)), (9, 61, some (39, 0), 1, (213, 214, 70, 215)), (9, 104, some (15, 1), 0, (365, 366, 72, 367)), (9, 117, some (47, 2), 0, (470, 471, 76, 472)), (9, 210, some (7, 3), 0, (648, 649, 78, 650)), (10, 1, none, 2, (798, 0, 0, 0)), (11, 9, some (57, 0), 0, (81, 82, 64, 83)), (11, 12, some (101, 0), 0, (795, 796, 71, 797))]
def m_LP : List (Nat × Nat × Option (Nat × Nat) × Nat × (Nat × Nat × Nat × Nat)) := m_LP0
def m_lkF (o i : Nat) : Option (Nat × Nat) := (m_LF.find? (fun q => q.1 == o && q.2.1 == i)).map (fun q => q.2.2.1)
def m_lkI (o i : Nat) : Option Int32 := (m_LI.find? (fun q => q.1 == o && q.2.1 == i)).map (fun q => q.2.2.1)
def m_lkJ (o i : Nat) : Option Int64 := (m_LJ.find? (fun q => q.1 == o && q.2.1 == i)).map (fun q => q.2.2.1)
def m_lkC (o i : Nat) : Option Nat := (m_LC.find? (fun q => q.1 == o && q.2.1 == i)).map (fun q => q.2.2.1)
def m_lkS (o i : Nat) : Option (Nat × Nat) := (m_LT.find? (fun q => q.1 == o && q.2.1 == i)).map (fun q => q.2.2.1)
def m_lkV (o i : Nat) : Option (Nat × List (Nat × Nat)) := (m_LV.find? (fun q => q.1 == o && q.2.1 == i)).map (fun q => q.2.2.1)
def m_lkP (o i : Nat) : Option (Option (Nat × Nat)) := (m_LP.find? (fun q => q.1 == o && q.2.1 == i)).map (fun q => q.2.2.1)
end
section
/-! the tables hold: each link by its place in the law's own words -/
def m_TB : List Cond := lw_tbl.filter goodWord
theorem m_TB_good : GoodIn m_TB m_TB := fun w h => ⟨h, good_of_word (List.mem_filter.mp h).2⟩
def m_at (i : Nat) (w : Cond) : Bool := decide (lw_tbl[i]? = some w) && goodWord w
theorem m_at_in {i : Nat} {w : Cond} (h : m_at i w = true) : w ∈ m_TB := by
  unfold m_at at h
  rw [Bool.and_eq_true] at h
  exact List.mem_filter.mpr ⟨List.mem_of_getElem? (of_decide_eq_true h.1), h.2⟩
def m_isN (w : Cond) : Bool := match w with
  | .methodLinkNest _ _ _ _ => true
  | .declares _ => true
  | .castable _ _ => true
  | .arrayOver (.object _) => true
  | _ => false
def m_NW : List Cond := lw_tbl.filter m_isN
def m_atN (i : Nat) (w : Cond) : Bool := decide (lw_tbl[i]? = some w) && m_isN w
theorem m_atN_in {i : Nat} {w : Cond} (h : m_atN i w = true) : w ∈ m_NW := by
  unfold m_atN at h
  rw [Bool.and_eq_true] at h
  exact List.mem_filter.mpr ⟨List.mem_of_getElem? (of_decide_eq_true h.1), h.2⟩
theorem m_NW_warm {w : Cond} (hw : w ∈ m_NW) {s U : State} (hW : s.WarmedH U.vm) (h : va_Nw w s) : va_Nw w U := by
  have h2 := (List.mem_filter.mp hw).2
  unfold m_isN at h2
  split at h2
  · exact va_Nw.warmM hW h
  · exact va_Nw.warmD hW h
  · exact va_Nw.warmC hW h
  · exact va_AO.moved hW.alike h
  · exact absurd h2 (by decide)
theorem m_NW_of {w : Cond} (hw : w ∈ m_NW) {A : Array Value} {U : State} (h : w.before A U = true) : va_Nw w U := by
  have h2 := (List.mem_filter.mp hw).2
  unfold m_isN at h2
  split at h2
  · exact va_Nw.of rfl h
  · exact va_Nw.of rfl h
  · exact va_Nw.of rfl h
  · exact va_AO.of h
  · exact absurd h2 (by decide)
theorem m_NW_tbl {w : Cond} (hw : w ∈ m_NW) : w ∈ lw_tbl := (List.mem_filter.mp hw).1
theorem m_TB_tbl {w : Cond} (hw : w ∈ m_TB) : w ∈ lw_tbl := (List.mem_filter.mp hw).1
def m_Rn (c : Nat) : String := match c with
  | 0 => RX0
  | 1 => RX1
  | 2 => RX2
  | 3 => RX3
  | 4 => RX4
  | 5 => RX5
  | 6 => RX7
  | 7 => RX8
  | 8 => RX9
  | _ => RX10
def m_oN (o : Nat) : String := m_oR.getD o ""
def m_cw (m : Nat) : Cond := .code (m_nam m) (m_code m) (m_maxL m) (m_ret m)
set_option maxRecDepth 20000 in
theorem m_cw_0 : m_cw 0 ∈ m_TB := List.mem_filter.mpr ⟨List.mem_of_getElem? (i := 158) rfl, rfl⟩
set_option maxRecDepth 20000 in
theorem m_cw_1 : m_cw 1 ∈ m_TB := List.mem_filter.mpr ⟨List.mem_of_getElem? (i := 583) rfl, rfl⟩
set_option maxRecDepth 20000 in
theorem m_cw_2 : m_cw 2 ∈ m_TB := List.mem_filter.mpr ⟨List.mem_of_getElem? (i := 594) rfl, rfl⟩
set_option maxRecDepth 20000 in
theorem m_cw_3 : m_cw 3 ∈ m_TB := List.mem_filter.mpr ⟨List.mem_of_getElem? (i := 602) rfl, rfl⟩
set_option maxRecDepth 20000 in
theorem m_cw_4 : m_cw 4 ∈ m_TB := List.mem_filter.mpr ⟨List.mem_of_getElem? (i := 606) rfl, rfl⟩
set_option maxRecDepth 20000 in
theorem m_cw_5 : m_cw 5 ∈ m_TB := List.mem_filter.mpr ⟨List.mem_of_getElem? (i := 623) rfl, rfl⟩
set_option maxRecDepth 20000 in
theorem m_cw_6 : m_cw 6 ∈ m_TB := List.mem_filter.mpr ⟨List.mem_of_getElem? (i := 618) rfl, rfl⟩
set_option maxRecDepth 20000 in
theorem m_cw_7 : m_cw 7 ∈ m_TB := List.mem_filter.mpr ⟨List.mem_of_getElem? (i := 650) rfl, rfl⟩
set_option maxRecDepth 20000 in
theorem m_cw_8 : m_cw 8 ∈ m_TB := List.mem_filter.mpr ⟨List.mem_of_getElem? (i := 676) rfl, rfl⟩
set_option maxRecDepth 20000 in
theorem m_cw_9 : m_cw 9 ∈ m_TB := List.mem_filter.mpr ⟨List.mem_of_getElem? (i := 681) rfl, rfl⟩
set_option maxRecDepth 20000 in
theorem m_cw_10 : m_cw 10 ∈ m_TB := List.mem_filter.mpr ⟨List.mem_of_getElem? (i := 685) rfl, rfl⟩
set_option maxRecDepth 20000 in
theorem m_cw_11 : m_cw 11 ∈ m_TB := List.mem_filter.mpr ⟨List.mem_of_getElem? (i := 694) rfl, rfl⟩
set_option maxRecDepth 20000 in
theorem m_cw_12 : m_cw 12 ∈ m_TB := List.mem_filter.mpr ⟨List.mem_of_getElem? (i := 192) rfl, rfl⟩
set_option maxRecDepth 20000 in
theorem m_cw_13 : m_cw 13 ∈ m_TB := List.mem_filter.mpr ⟨List.mem_of_getElem? (i := 715) rfl, rfl⟩
set_option maxRecDepth 20000 in
theorem m_cw_14 : m_cw 14 ∈ m_TB := List.mem_filter.mpr ⟨List.mem_of_getElem? (i := 719) rfl, rfl⟩
set_option maxRecDepth 20000 in
theorem m_cw_15 : m_cw 15 ∈ m_TB := List.mem_filter.mpr ⟨List.mem_of_getElem? (i := 367) rfl, rfl⟩
set_option maxRecDepth 20000 in
theorem m_cw_16 : m_cw 16 ∈ m_TB := List.mem_filter.mpr ⟨List.mem_of_getElem? (i := 388) rfl, rfl⟩
set_option maxRecDepth 20000 in
theorem m_cw_17 : m_cw 17 ∈ m_TB := List.mem_filter.mpr ⟨List.mem_of_getElem? (i := 506) rfl, rfl⟩
set_option maxRecDepth 20000 in
theorem m_cw_18 : m_cw 18 ∈ m_TB := List.mem_filter.mpr ⟨List.mem_of_getElem? (i := 563) rfl, rfl⟩
set_option maxRecDepth 20000 in
theorem m_cw_19 : m_cw 19 ∈ m_TB := List.mem_filter.mpr ⟨List.mem_of_getElem? (i := 567) rfl, rfl⟩
set_option maxRecDepth 20000 in
theorem m_cw_20 : m_cw 20 ∈ m_TB := List.mem_filter.mpr ⟨List.mem_of_getElem? (i := 611) rfl, rfl⟩
set_option maxRecDepth 20000 in
theorem m_cw_21 : m_cw 21 ∈ m_TB := List.mem_filter.mpr ⟨List.mem_of_getElem? (i := 598) rfl, rfl⟩
set_option maxRecDepth 20000 in
theorem m_cw_22 : m_cw 22 ∈ m_TB := List.mem_filter.mpr ⟨List.mem_of_getElem? (i := 524) rfl, rfl⟩
set_option maxRecDepth 20000 in
theorem m_cw_23 : m_cw 23 ∈ m_TB := List.mem_filter.mpr ⟨List.mem_of_getElem? (i := 531) rfl, rfl⟩
set_option maxRecDepth 20000 in
theorem m_cw_24 : m_cw 24 ∈ m_TB := List.mem_filter.mpr ⟨List.mem_of_getElem? (i := 535) rfl, rfl⟩
set_option maxRecDepth 20000 in
theorem m_cw_25 : m_cw 25 ∈ m_TB := List.mem_filter.mpr ⟨List.mem_of_getElem? (i := 542) rfl, rfl⟩
set_option maxRecDepth 20000 in
theorem m_cw_26 : m_cw 26 ∈ m_TB := List.mem_filter.mpr ⟨List.mem_of_getElem? (i := 590) rfl, rfl⟩
set_option maxRecDepth 20000 in
theorem m_cw_27 : m_cw 27 ∈ m_TB := List.mem_filter.mpr ⟨List.mem_of_getElem? (i := 690) rfl, rfl⟩
set_option maxRecDepth 20000 in
theorem m_cw_28 : m_cw 28 ∈ m_TB := List.mem_filter.mpr ⟨List.mem_of_getElem? (i := 702) rfl, rfl⟩
set_option maxRecDepth 20000 in
theorem m_cw_29 : m_cw 29 ∈ m_TB := List.mem_filter.mpr ⟨List.mem_of_getElem? (i := 698) rfl, rfl⟩
set_option maxRecDepth 20000 in
theorem m_cw_30 : m_cw 30 ∈ m_TB := List.mem_filter.mpr ⟨List.mem_of_getElem? (i := 97) rfl, rfl⟩
set_option maxRecDepth 20000 in
theorem m_cw_31 : m_cw 31 ∈ m_TB := List.mem_filter.mpr ⟨List.mem_of_getElem? (i := 295) rfl, rfl⟩
set_option maxRecDepth 20000 in
theorem m_cw_32 : m_cw 32 ∈ m_TB := List.mem_filter.mpr ⟨List.mem_of_getElem? (i := 360) rfl, rfl⟩
set_option maxRecDepth 20000 in
theorem m_cw_33 : m_cw 33 ∈ m_TB := List.mem_filter.mpr ⟨List.mem_of_getElem? (i := 304) rfl, rfl⟩
set_option maxRecDepth 20000 in
theorem m_cw_34 : m_cw 34 ∈ m_TB := List.mem_filter.mpr ⟨List.mem_of_getElem? (i := 312) rfl, rfl⟩
set_option maxRecDepth 20000 in
theorem m_cw_35 : m_cw 35 ∈ m_TB := List.mem_filter.mpr ⟨List.mem_of_getElem? (i := 324) rfl, rfl⟩
set_option maxRecDepth 20000 in
theorem m_cw_36 : m_cw 36 ∈ m_TB := List.mem_filter.mpr ⟨List.mem_of_getElem? (i := 320) rfl, rfl⟩
set_option maxRecDepth 20000 in
theorem m_cw_37 : m_cw 37 ∈ m_TB := List.mem_filter.mpr ⟨List.mem_of_getElem? (i := 328) rfl, rfl⟩
set_option maxRecDepth 20000 in
theorem m_cw_38 : m_cw 38 ∈ m_TB := List.mem_filter.mpr ⟨List.mem_of_getElem? (i := 332) rfl, rfl⟩
set_option maxRecDepth 20000 in
theorem m_cw_39 : m_cw 39 ∈ m_TB := List.mem_filter.mpr ⟨List.mem_of_getElem? (i := 215) rfl, rfl⟩
set_option maxRecDepth 20000 in
theorem m_cw_40 : m_cw 40 ∈ m_TB := List.mem_filter.mpr ⟨List.mem_of_getElem? (i := 729) rfl, rfl⟩
set_option maxRecDepth 20000 in
theorem m_cw_41 : m_cw 41 ∈ m_TB := List.mem_filter.mpr ⟨List.mem_of_getElem? (i := 733) rfl, rfl⟩
set_option maxRecDepth 20000 in
theorem m_cw_42 : m_cw 42 ∈ m_TB := List.mem_filter.mpr ⟨List.mem_of_getElem? (i := 737) rfl, rfl⟩
set_option maxRecDepth 20000 in
theorem m_cw_43 : m_cw 43 ∈ m_TB := List.mem_filter.mpr ⟨List.mem_of_getElem? (i := 743) rfl, rfl⟩
set_option maxRecDepth 20000 in
theorem m_cw_44 : m_cw 44 ∈ m_TB := List.mem_filter.mpr ⟨List.mem_of_getElem? (i := 100) rfl, rfl⟩
set_option maxRecDepth 20000 in
theorem m_cw_45 : m_cw 45 ∈ m_TB := List.mem_filter.mpr ⟨List.mem_of_getElem? (i := 308) rfl, rfl⟩
set_option maxRecDepth 20000 in
theorem m_cw_46 : m_cw 46 ∈ m_TB := List.mem_filter.mpr ⟨List.mem_of_getElem? (i := 316) rfl, rfl⟩
set_option maxRecDepth 20000 in
theorem m_cw_47 : m_cw 47 ∈ m_TB := List.mem_filter.mpr ⟨List.mem_of_getElem? (i := 472) rfl, rfl⟩
set_option maxRecDepth 20000 in
theorem m_cw_48 : m_cw 48 ∈ m_TB := List.mem_filter.mpr ⟨List.mem_of_getElem? (i := 494) rfl, rfl⟩
set_option maxRecDepth 20000 in
theorem m_cw_49 : m_cw 49 ∈ m_TB := List.mem_filter.mpr ⟨List.mem_of_getElem? (i := 520) rfl, rfl⟩
set_option maxRecDepth 20000 in
theorem m_cw_50 : m_cw 50 ∈ m_TB := List.mem_filter.mpr ⟨List.mem_of_getElem? (i := 760) rfl, rfl⟩
set_option maxRecDepth 20000 in
theorem m_cw_51 : m_cw 51 ∈ m_TB := List.mem_filter.mpr ⟨List.mem_of_getElem? (i := 137) rfl, rfl⟩
set_option maxRecDepth 20000 in
theorem m_cw_52 : m_cw 52 ∈ m_TB := List.mem_filter.mpr ⟨List.mem_of_getElem? (i := 298) rfl, rfl⟩
set_option maxRecDepth 20000 in
theorem m_cw_53 : m_cw 53 ∈ m_TB := List.mem_filter.mpr ⟨List.mem_of_getElem? (i := 363) rfl, rfl⟩
set_option maxRecDepth 20000 in
theorem m_cw_54 : m_cw 54 ∈ m_TB := List.mem_filter.mpr ⟨List.mem_of_getElem? (i := 335) rfl, rfl⟩
set_option maxRecDepth 20000 in
theorem m_cw_55 : m_cw 55 ∈ m_TB := List.mem_filter.mpr ⟨List.mem_of_getElem? (i := 346) rfl, rfl⟩
set_option maxRecDepth 20000 in
theorem m_cw_56 : m_cw 56 ∈ m_TB := List.mem_filter.mpr ⟨List.mem_of_getElem? (i := 341) rfl, rfl⟩
set_option maxRecDepth 20000 in
theorem m_cw_57 : m_cw 57 ∈ m_TB := List.mem_filter.mpr ⟨List.mem_of_getElem? (i := 83) rfl, rfl⟩
set_option maxRecDepth 20000 in
theorem m_cw_58 : m_cw 58 ∈ m_TB := List.mem_filter.mpr ⟨List.mem_of_getElem? (i := 273) rfl, rfl⟩
set_option maxRecDepth 20000 in
theorem m_cw_59 : m_cw 59 ∈ m_TB := List.mem_filter.mpr ⟨List.mem_of_getElem? (i := 276) rfl, rfl⟩
set_option maxRecDepth 20000 in
theorem m_cw_60 : m_cw 60 ∈ m_TB := List.mem_filter.mpr ⟨List.mem_of_getElem? (i := 281) rfl, rfl⟩
set_option maxRecDepth 20000 in
theorem m_cw_61 : m_cw 61 ∈ m_TB := List.mem_filter.mpr ⟨List.mem_of_getElem? (i := 285) rfl, rfl⟩
set_option maxRecDepth 20000 in
theorem m_cw_62 : m_cw 62 ∈ m_TB := List.mem_filter.mpr ⟨List.mem_of_getElem? (i := 289) rfl, rfl⟩
set_option maxRecDepth 20000 in
theorem m_cw_63 : m_cw 63 ∈ m_TB := List.mem_filter.mpr ⟨List.mem_of_getElem? (i := 354) rfl, rfl⟩
set_option maxRecDepth 20000 in
theorem m_cw_64 : m_cw 64 ∈ m_TB := List.mem_filter.mpr ⟨List.mem_of_getElem? (i := 350) rfl, rfl⟩
set_option maxRecDepth 20000 in
theorem m_cw_65 : m_cw 65 ∈ m_TB := List.mem_filter.mpr ⟨List.mem_of_getElem? (i := 465) rfl, rfl⟩
set_option maxRecDepth 20000 in
theorem m_cw_66 : m_cw 66 ∈ m_TB := List.mem_filter.mpr ⟨List.mem_of_getElem? (i := 468) rfl, rfl⟩
set_option maxRecDepth 20000 in
theorem m_cw_67 : m_cw 67 ∈ m_TB := List.mem_filter.mpr ⟨List.mem_of_getElem? (i := 502) rfl, rfl⟩
set_option maxRecDepth 20000 in
theorem m_cw_68 : m_cw 68 ∈ m_TB := List.mem_filter.mpr ⟨List.mem_of_getElem? (i := 490) rfl, rfl⟩
set_option maxRecDepth 20000 in
theorem m_cw_69 : m_cw 69 ∈ m_TB := List.mem_filter.mpr ⟨List.mem_of_getElem? (i := 672) rfl, rfl⟩
set_option maxRecDepth 20000 in
theorem m_cw_70 : m_cw 70 ∈ m_TB := List.mem_filter.mpr ⟨List.mem_of_getElem? (i := 486) rfl, rfl⟩
set_option maxRecDepth 20000 in
theorem m_cw_71 : m_cw 71 ∈ m_TB := List.mem_filter.mpr ⟨List.mem_of_getElem? (i := 498) rfl, rfl⟩
set_option maxRecDepth 20000 in
theorem m_cw_72 : m_cw 72 ∈ m_TB := List.mem_filter.mpr ⟨List.mem_of_getElem? (i := 516) rfl, rfl⟩
set_option maxRecDepth 20000 in
theorem m_cw_73 : m_cw 73 ∈ m_TB := List.mem_filter.mpr ⟨List.mem_of_getElem? (i := 547) rfl, rfl⟩
set_option maxRecDepth 20000 in
theorem m_cw_74 : m_cw 74 ∈ m_TB := List.mem_filter.mpr ⟨List.mem_of_getElem? (i := 555) rfl, rfl⟩
set_option maxRecDepth 20000 in
theorem m_cw_75 : m_cw 75 ∈ m_TB := List.mem_filter.mpr ⟨List.mem_of_getElem? (i := 559) rfl, rfl⟩
set_option maxRecDepth 20000 in
theorem m_cw_76 : m_cw 76 ∈ m_TB := List.mem_filter.mpr ⟨List.mem_of_getElem? (i := 571) rfl, rfl⟩
set_option maxRecDepth 20000 in
theorem m_cw_77 : m_cw 77 ∈ m_TB := List.mem_filter.mpr ⟨List.mem_of_getElem? (i := 575) rfl, rfl⟩
set_option maxRecDepth 20000 in
theorem m_cw_78 : m_cw 78 ∈ m_TB := List.mem_filter.mpr ⟨List.mem_of_getElem? (i := 579) rfl, rfl⟩
set_option maxRecDepth 20000 in
theorem m_cw_79 : m_cw 79 ∈ m_TB := List.mem_filter.mpr ⟨List.mem_of_getElem? (i := 630) rfl, rfl⟩
set_option maxRecDepth 20000 in
theorem m_cw_80 : m_cw 80 ∈ m_TB := List.mem_filter.mpr ⟨List.mem_of_getElem? (i := 637) rfl, rfl⟩
set_option maxRecDepth 20000 in
theorem m_cw_81 : m_cw 81 ∈ m_TB := List.mem_filter.mpr ⟨List.mem_of_getElem? (i := 641) rfl, rfl⟩
set_option maxRecDepth 20000 in
theorem m_cw_82 : m_cw 82 ∈ m_TB := List.mem_filter.mpr ⟨List.mem_of_getElem? (i := 646) rfl, rfl⟩
set_option maxRecDepth 20000 in
theorem m_cw_83 : m_cw 83 ∈ m_TB := List.mem_filter.mpr ⟨List.mem_of_getElem? (i := 668) rfl, rfl⟩
set_option maxRecDepth 20000 in
theorem m_cw_84 : m_cw 84 ∈ m_TB := List.mem_filter.mpr ⟨List.mem_of_getElem? (i := 706) rfl, rfl⟩
set_option maxRecDepth 20000 in
theorem m_cw_85 : m_cw 85 ∈ m_TB := List.mem_filter.mpr ⟨List.mem_of_getElem? (i := 710) rfl, rfl⟩
set_option maxRecDepth 20000 in
theorem m_cw_86 : m_cw 86 ∈ m_TB := List.mem_filter.mpr ⟨List.mem_of_getElem? (i := 725) rfl, rfl⟩
set_option maxRecDepth 20000 in
theorem m_cw_87 : m_cw 87 ∈ m_TB := List.mem_filter.mpr ⟨List.mem_of_getElem? (i := 748) rfl, rfl⟩
set_option maxRecDepth 20000 in
theorem m_cw_88 : m_cw 88 ∈ m_TB := List.mem_filter.mpr ⟨List.mem_of_getElem? (i := 752) rfl, rfl⟩
set_option maxRecDepth 20000 in
theorem m_cw_89 : m_cw 89 ∈ m_TB := List.mem_filter.mpr ⟨List.mem_of_getElem? (i := 756) rfl, rfl⟩
set_option maxRecDepth 20000 in
theorem m_cw_90 : m_cw 90 ∈ m_TB := List.mem_filter.mpr ⟨List.mem_of_getElem? (i := 766) rfl, rfl⟩
set_option maxRecDepth 20000 in
theorem m_cw_91 : m_cw 91 ∈ m_TB := List.mem_filter.mpr ⟨List.mem_of_getElem? (i := 770) rfl, rfl⟩
set_option maxRecDepth 20000 in
theorem m_cw_92 : m_cw 92 ∈ m_TB := List.mem_filter.mpr ⟨List.mem_of_getElem? (i := 774) rfl, rfl⟩
set_option maxRecDepth 20000 in
theorem m_cw_93 : m_cw 93 ∈ m_TB := List.mem_filter.mpr ⟨List.mem_of_getElem? (i := 778) rfl, rfl⟩
set_option maxRecDepth 20000 in
theorem m_cw_94 : m_cw 94 ∈ m_TB := List.mem_filter.mpr ⟨List.mem_of_getElem? (i := 782) rfl, rfl⟩
set_option maxRecDepth 20000 in
theorem m_cw_95 : m_cw 95 ∈ m_TB := List.mem_filter.mpr ⟨List.mem_of_getElem? (i := 787) rfl, rfl⟩
set_option maxRecDepth 20000 in
theorem m_cw_96 : m_cw 96 ∈ m_TB := List.mem_filter.mpr ⟨List.mem_of_getElem? (i := 527) rfl, rfl⟩
set_option maxRecDepth 20000 in
theorem m_cw_97 : m_cw 97 ∈ m_TB := List.mem_filter.mpr ⟨List.mem_of_getElem? (i := 538) rfl, rfl⟩
set_option maxRecDepth 20000 in
theorem m_cw_98 : m_cw 98 ∈ m_TB := List.mem_filter.mpr ⟨List.mem_of_getElem? (i := 550) rfl, rfl⟩
set_option maxRecDepth 20000 in
theorem m_cw_99 : m_cw 99 ∈ m_TB := List.mem_filter.mpr ⟨List.mem_of_getElem? (i := 626) rfl, rfl⟩
set_option maxRecDepth 20000 in
theorem m_cw_100 : m_cw 100 ∈ m_TB := List.mem_filter.mpr ⟨List.mem_of_getElem? (i := 633) rfl, rfl⟩
set_option maxRecDepth 20000 in
theorem m_cw_101 : m_cw 101 ∈ m_TB := List.mem_filter.mpr ⟨List.mem_of_getElem? (i := 797) rfl, rfl⟩
set_option maxRecDepth 20000 in
theorem m_cw_102 : m_cw 102 ∈ m_TB := List.mem_filter.mpr ⟨List.mem_of_getElem? (i := 930) rfl, rfl⟩
set_option maxRecDepth 20000 in
theorem m_cw_103 : m_cw 103 ∈ m_TB := List.mem_filter.mpr ⟨List.mem_of_getElem? (i := 1083) rfl, rfl⟩
set_option maxRecDepth 20000 in
theorem m_cw_104 : m_cw 104 ∈ m_TB := List.mem_filter.mpr ⟨List.mem_of_getElem? (i := 1014) rfl, rfl⟩
set_option maxRecDepth 20000 in
theorem m_cw_105 : m_cw 105 ∈ m_TB := List.mem_filter.mpr ⟨List.mem_of_getElem? (i := 983) rfl, rfl⟩
set_option maxRecDepth 20000 in
theorem m_cw_106 : m_cw 106 ∈ m_TB := List.mem_filter.mpr ⟨List.mem_of_getElem? (i := 979) rfl, rfl⟩
set_option maxRecDepth 20000 in
theorem m_cw_107 : m_cw 107 ∈ m_TB := List.mem_filter.mpr ⟨List.mem_of_getElem? (i := 918) rfl, rfl⟩
set_option maxRecDepth 20000 in
theorem m_cw_108 : m_cw 108 ∈ m_TB := List.mem_filter.mpr ⟨List.mem_of_getElem? (i := 923) rfl, rfl⟩
set_option maxRecDepth 20000 in
theorem m_cw_109 : m_cw 109 ∈ m_TB := List.mem_filter.mpr ⟨List.mem_of_getElem? (i := 942) rfl, rfl⟩
set_option maxRecDepth 20000 in
theorem m_cw_110 : m_cw 110 ∈ m_TB := List.mem_filter.mpr ⟨List.mem_of_getElem? (i := 938) rfl, rfl⟩
set_option maxRecDepth 20000 in
theorem m_cw_111 : m_cw 111 ∈ m_TB := List.mem_filter.mpr ⟨List.mem_of_getElem? (i := 954) rfl, rfl⟩
set_option maxRecDepth 20000 in
theorem m_cw_112 : m_cw 112 ∈ m_TB := List.mem_filter.mpr ⟨List.mem_of_getElem? (i := 950) rfl, rfl⟩
set_option maxRecDepth 20000 in
theorem m_cw_113 : m_cw 113 ∈ m_TB := List.mem_filter.mpr ⟨List.mem_of_getElem? (i := 934) rfl, rfl⟩
set_option maxRecDepth 20000 in
theorem m_cw_114 : m_cw 114 ∈ m_TB := List.mem_filter.mpr ⟨List.mem_of_getElem? (i := 927) rfl, rfl⟩
set_option maxRecDepth 20000 in
theorem m_cw_115 : m_cw 115 ∈ m_TB := List.mem_filter.mpr ⟨List.mem_of_getElem? (i := 958) rfl, rfl⟩
set_option maxRecDepth 20000 in
theorem m_cw_116 : m_cw 116 ∈ m_TB := List.mem_filter.mpr ⟨List.mem_of_getElem? (i := 962) rfl, rfl⟩
set_option maxRecDepth 20000 in
theorem m_cw_117 : m_cw 117 ∈ m_TB := List.mem_filter.mpr ⟨List.mem_of_getElem? (i := 971) rfl, rfl⟩
set_option maxRecDepth 20000 in
theorem m_cw_118 : m_cw 118 ∈ m_TB := List.mem_filter.mpr ⟨List.mem_of_getElem? (i := 967) rfl, rfl⟩
set_option maxRecDepth 20000 in
theorem m_cw_119 : m_cw 119 ∈ m_TB := List.mem_filter.mpr ⟨List.mem_of_getElem? (i := 991) rfl, rfl⟩
set_option maxRecDepth 20000 in
theorem m_cw_120 : m_cw 120 ∈ m_TB := List.mem_filter.mpr ⟨List.mem_of_getElem? (i := 995) rfl, rfl⟩
set_option maxRecDepth 20000 in
theorem m_cw_121 : m_cw 121 ∈ m_TB := List.mem_filter.mpr ⟨List.mem_of_getElem? (i := 987) rfl, rfl⟩
set_option maxRecDepth 20000 in
theorem m_cw_122 : m_cw 122 ∈ m_TB := List.mem_filter.mpr ⟨List.mem_of_getElem? (i := 975) rfl, rfl⟩
set_option maxRecDepth 20000 in
theorem m_cw_123 : m_cw 123 ∈ m_TB := List.mem_filter.mpr ⟨List.mem_of_getElem? (i := 1011) rfl, rfl⟩
set_option maxRecDepth 20000 in
theorem m_cw_124 : m_cw 124 ∈ m_TB := List.mem_filter.mpr ⟨List.mem_of_getElem? (i := 1018) rfl, rfl⟩
set_option maxRecDepth 20000 in
theorem m_cw_125 : m_cw 125 ∈ m_TB := List.mem_filter.mpr ⟨List.mem_of_getElem? (i := 1022) rfl, rfl⟩
set_option maxRecDepth 20000 in
theorem m_cw_126 : m_cw 126 ∈ m_TB := List.mem_filter.mpr ⟨List.mem_of_getElem? (i := 1007) rfl, rfl⟩
set_option maxRecDepth 20000 in
theorem m_cw_127 : m_cw 127 ∈ m_TB := List.mem_filter.mpr ⟨List.mem_of_getElem? (i := 1003) rfl, rfl⟩
set_option maxRecDepth 20000 in
theorem m_cw_128 : m_cw 128 ∈ m_TB := List.mem_filter.mpr ⟨List.mem_of_getElem? (i := 999) rfl, rfl⟩
set_option maxRecDepth 20000 in
theorem m_cw_129 : m_cw 129 ∈ m_TB := List.mem_filter.mpr ⟨List.mem_of_getElem? (i := 1029) rfl, rfl⟩
set_option maxRecDepth 20000 in
theorem m_cw_130 : m_cw 130 ∈ m_TB := List.mem_filter.mpr ⟨List.mem_of_getElem? (i := 1026) rfl, rfl⟩
set_option maxRecDepth 20000 in
theorem m_cw_131 : m_cw 131 ∈ m_TB := List.mem_filter.mpr ⟨List.mem_of_getElem? (i := 1033) rfl, rfl⟩
set_option maxRecDepth 20000 in
theorem m_cw_132 : m_cw 132 ∈ m_TB := List.mem_filter.mpr ⟨List.mem_of_getElem? (i := 1037) rfl, rfl⟩
set_option maxRecDepth 20000 in
theorem m_cw_133 : m_cw 133 ∈ m_TB := List.mem_filter.mpr ⟨List.mem_of_getElem? (i := 1042) rfl, rfl⟩
set_option maxRecDepth 20000 in
theorem m_cw_134 : m_cw 134 ∈ m_TB := List.mem_filter.mpr ⟨List.mem_of_getElem? (i := 1066) rfl, rfl⟩
set_option maxRecDepth 20000 in
theorem m_cw_135 : m_cw 135 ∈ m_TB := List.mem_filter.mpr ⟨List.mem_of_getElem? (i := 1073) rfl, rfl⟩
set_option maxRecDepth 20000 in
theorem m_cw_136 : m_cw 136 ∈ m_TB := List.mem_filter.mpr ⟨List.mem_of_getElem? (i := 1076) rfl, rfl⟩
set_option maxRecDepth 20000 in
theorem m_cw_137 : m_cw 137 ∈ m_TB := List.mem_filter.mpr ⟨List.mem_of_getElem? (i := 1062) rfl, rfl⟩
set_option maxRecDepth 20000 in
theorem m_cw_138 : m_cw 138 ∈ m_TB := List.mem_filter.mpr ⟨List.mem_of_getElem? (i := 1059) rfl, rfl⟩
set_option maxRecDepth 20000 in
theorem m_cw_139 : m_cw 139 ∈ m_TB := List.mem_filter.mpr ⟨List.mem_of_getElem? (i := 1070) rfl, rfl⟩
set_option maxRecDepth 20000 in
theorem m_cw_140 : m_cw 140 ∈ m_TB := List.mem_filter.mpr ⟨List.mem_of_getElem? (i := 1055) rfl, rfl⟩
set_option maxRecDepth 20000 in
theorem m_cw_141 : m_cw 141 ∈ m_TB := List.mem_filter.mpr ⟨List.mem_of_getElem? (i := 1080) rfl, rfl⟩
set_option maxRecDepth 20000 in
theorem m_cw_142 : m_cw 142 ∈ m_TB := List.mem_filter.mpr ⟨List.mem_of_getElem? (i := 1051) rfl, rfl⟩
set_option maxRecDepth 20000 in
theorem m_cw_143 : m_cw 143 ∈ m_TB := List.mem_filter.mpr ⟨List.mem_of_getElem? (i := 1046) rfl, rfl⟩
set_option maxRecDepth 20000 in
theorem m_cw_144 : m_cw 144 ∈ m_TB := List.mem_filter.mpr ⟨List.mem_of_getElem? (i := 1087) rfl, rfl⟩
set_option maxRecDepth 20000 in
theorem m_cw_145 : m_cw 145 ∈ m_TB := List.mem_filter.mpr ⟨List.mem_of_getElem? (i := 1095) rfl, rfl⟩
set_option maxRecDepth 20000 in
theorem m_cw_146 : m_cw 146 ∈ m_TB := List.mem_filter.mpr ⟨List.mem_of_getElem? (i := 1091) rfl, rfl⟩
set_option maxRecDepth 20000 in
theorem m_cw_147 : m_cw 147 ∈ m_TB := List.mem_filter.mpr ⟨List.mem_of_getElem? (i := 1099) rfl, rfl⟩
set_option maxRecDepth 20000 in
theorem m_cw_148 : m_cw 148 ∈ m_TB := List.mem_filter.mpr ⟨List.mem_of_getElem? (i := 1103) rfl, rfl⟩
set_option maxRecDepth 20000 in
theorem m_cw_149 : m_cw 149 ∈ m_TB := List.mem_filter.mpr ⟨List.mem_of_getElem? (i := 1120) rfl, rfl⟩
set_option maxRecDepth 20000 in
theorem m_cw_150 : m_cw 150 ∈ m_TB := List.mem_filter.mpr ⟨List.mem_of_getElem? (i := 1116) rfl, rfl⟩
set_option maxRecDepth 20000 in
theorem m_cw_151 : m_cw 151 ∈ m_TB := List.mem_filter.mpr ⟨List.mem_of_getElem? (i := 1112) rfl, rfl⟩
set_option maxRecDepth 20000 in
theorem m_cw_152 : m_cw 152 ∈ m_TB := List.mem_filter.mpr ⟨List.mem_of_getElem? (i := 1108) rfl, rfl⟩
set_option maxRecDepth 20000 in
theorem m_cw_153 : m_cw 153 ∈ m_TB := List.mem_filter.mpr ⟨List.mem_of_getElem? (i := 1128) rfl, rfl⟩
set_option maxRecDepth 20000 in
theorem m_cw_154 : m_cw 154 ∈ m_TB := List.mem_filter.mpr ⟨List.mem_of_getElem? (i := 1124) rfl, rfl⟩
set_option maxRecDepth 20000 in
theorem m_cw_155 : m_cw 155 ∈ m_TB := List.mem_filter.mpr ⟨List.mem_of_getElem? (i := 1138) rfl, rfl⟩
set_option maxRecDepth 20000 in
theorem m_cw_156 : m_cw 156 ∈ m_TB := List.mem_filter.mpr ⟨List.mem_of_getElem? (i := 1132) rfl, rfl⟩
set_option maxRecDepth 20000 in
theorem m_cw_157 : m_cw 157 ∈ m_TB := List.mem_filter.mpr ⟨List.mem_of_getElem? (i := 1154) rfl, rfl⟩
set_option maxRecDepth 20000 in
theorem m_cw_158 : m_cw 158 ∈ m_TB := List.mem_filter.mpr ⟨List.mem_of_getElem? (i := 1150) rfl, rfl⟩
set_option maxRecDepth 20000 in
theorem m_cw_159 : m_cw 159 ∈ m_TB := List.mem_filter.mpr ⟨List.mem_of_getElem? (i := 1146) rfl, rfl⟩
set_option maxRecDepth 20000 in
theorem m_cw_160 : m_cw 160 ∈ m_TB := List.mem_filter.mpr ⟨List.mem_of_getElem? (i := 1142) rfl, rfl⟩
set_option maxRecDepth 20000 in
theorem m_cw_161 : m_cw 161 ∈ m_TB := List.mem_filter.mpr ⟨List.mem_of_getElem? (i := 1158) rfl, rfl⟩
set_option maxRecDepth 20000 in
theorem m_cw_162 : m_cw 162 ∈ m_TB := List.mem_filter.mpr ⟨List.mem_of_getElem? (i := 1167) rfl, rfl⟩
set_option maxRecDepth 20000 in
theorem m_cw_163 : m_cw 163 ∈ m_TB := List.mem_filter.mpr ⟨List.mem_of_getElem? (i := 1162) rfl, rfl⟩
set_option maxRecDepth 20000 in
theorem m_cw_164 : m_cw 164 ∈ m_TB := List.mem_filter.mpr ⟨List.mem_of_getElem? (i := 1171) rfl, rfl⟩
set_option maxRecDepth 20000 in
theorem m_cw_165 : m_cw 165 ∈ m_TB := List.mem_filter.mpr ⟨List.mem_of_getElem? (i := 1179) rfl, rfl⟩
set_option maxRecDepth 20000 in
theorem m_cw_166 : m_cw 166 ∈ m_TB := List.mem_filter.mpr ⟨List.mem_of_getElem? (i := 1175) rfl, rfl⟩
set_option maxRecDepth 20000 in
theorem m_cw_167 : m_cw 167 ∈ m_TB := List.mem_filter.mpr ⟨List.mem_of_getElem? (i := 1188) rfl, rfl⟩
set_option maxRecDepth 20000 in
theorem m_cw_168 : m_cw 168 ∈ m_TB := List.mem_filter.mpr ⟨List.mem_of_getElem? (i := 1183) rfl, rfl⟩
set_option maxRecDepth 20000 in
theorem m_cw_169 : m_cw 169 ∈ m_TB := List.mem_filter.mpr ⟨List.mem_of_getElem? (i := 509) rfl, rfl⟩
set_option maxRecDepth 20000 in
theorem m_cw_170 : m_cw 170 ∈ m_TB := List.mem_filter.mpr ⟨List.mem_of_getElem? (i := 614) rfl, rfl⟩
set_option maxRecDepth 20000 in
theorem m_cw_171 : m_cw 171 ∈ m_TB := List.mem_filter.mpr ⟨List.mem_of_getElem? (i := 381) rfl, rfl⟩
set_option maxRecDepth 20000 in
theorem m_cw_172 : m_cw 172 ∈ m_TB := List.mem_filter.mpr ⟨List.mem_of_getElem? (i := 586) rfl, rfl⟩
set_option maxRecDepth 20000 in
theorem m_cw_173 : m_cw 173 ∈ m_TB := List.mem_filter.mpr ⟨List.mem_of_getElem? (i := 371) rfl, rfl⟩
def m_okM (m : Nat) : Bool := decide ((m_nam m).cls ≠ "java/lang/invoke/MethodHandle") && decide ((m_nam m).cls ≠ "java/lang/invoke/VarHandle")
def m_pos : Nat → List Nat → List Nat
  | _, [] => []
  | i, w :: r => if w = 2 then i :: m_pos (i + 2) r else m_pos (i + 1) r
def m_okR (m : Nat) : Bool := decide (m_oN (m_own m) = (m_nam m).cls) && decide ((m_wid m).sum ≤ m_maxL m) && (m_wid m).all (fun w => w == 1 || w == 2) && (m_pos 0 (m_wid m)).all (fun i => (m_LS m).contains i)
theorem m_okM_0 : ((List.range 35).map (0 + ·)).all m_okM = true := by decide +kernel
theorem m_okM_35 : ((List.range 35).map (35 + ·)).all m_okM = true := by decide +kernel
theorem m_okM_70 : ((List.range 35).map (70 + ·)).all m_okM = true := by decide +kernel
theorem m_okM_105 : ((List.range 35).map (105 + ·)).all m_okM = true := by decide +kernel
theorem m_okM_140 : ((List.range 34).map (140 + ·)).all m_okM = true := by decide +kernel
theorem m_okM_all {m : Nat} (h : m < 174) : m_okM m = true := by
  by_cases h0 : m < 35
  · exact List.all_eq_true.mp m_okM_0 m (List.mem_map.mpr ⟨m - 0, List.mem_range.mpr (by omega), by omega⟩)
  by_cases h35 : m < 70
  · exact List.all_eq_true.mp m_okM_35 m (List.mem_map.mpr ⟨m - 35, List.mem_range.mpr (by omega), by omega⟩)
  by_cases h70 : m < 105
  · exact List.all_eq_true.mp m_okM_70 m (List.mem_map.mpr ⟨m - 70, List.mem_range.mpr (by omega), by omega⟩)
  by_cases h105 : m < 140
  · exact List.all_eq_true.mp m_okM_105 m (List.mem_map.mpr ⟨m - 105, List.mem_range.mpr (by omega), by omega⟩)
  by_cases h140 : m < 174
  · exact List.all_eq_true.mp m_okM_140 m (List.mem_map.mpr ⟨m - 140, List.mem_range.mpr (by omega), by omega⟩)
  omega
theorem m_cw_in {m : Nat} (h : m < 174) : m_cw m ∈ m_TB := by
  by_cases h87 : m < 87
  · by_cases h43 : m < 43
    · by_cases h21 : m < 21
      · by_cases h10 : m < 10
        · by_cases h5 : m < 5
          · by_cases h2 : m < 2
            · by_cases h1 : m < 1
              · exact (show m = 0 by omega) ▸ m_cw_0
              · exact (show m = 1 by omega) ▸ m_cw_1
            · by_cases h3 : m < 3
              · exact (show m = 2 by omega) ▸ m_cw_2
              · by_cases h4 : m < 4
                · exact (show m = 3 by omega) ▸ m_cw_3
                · exact (show m = 4 by omega) ▸ m_cw_4
          · by_cases h7 : m < 7
            · by_cases h6 : m < 6
              · exact (show m = 5 by omega) ▸ m_cw_5
              · exact (show m = 6 by omega) ▸ m_cw_6
            · by_cases h8 : m < 8
              · exact (show m = 7 by omega) ▸ m_cw_7
              · by_cases h9 : m < 9
                · exact (show m = 8 by omega) ▸ m_cw_8
                · exact (show m = 9 by omega) ▸ m_cw_9
        · by_cases h15 : m < 15
          · by_cases h12 : m < 12
            · by_cases h11 : m < 11
              · exact (show m = 10 by omega) ▸ m_cw_10
              · exact (show m = 11 by omega) ▸ m_cw_11
            · by_cases h13 : m < 13
              · exact (show m = 12 by omega) ▸ m_cw_12
              · by_cases h14 : m < 14
                · exact (show m = 13 by omega) ▸ m_cw_13
                · exact (show m = 14 by omega) ▸ m_cw_14
          · by_cases h18 : m < 18
            · by_cases h16 : m < 16
              · exact (show m = 15 by omega) ▸ m_cw_15
              · by_cases h17 : m < 17
                · exact (show m = 16 by omega) ▸ m_cw_16
                · exact (show m = 17 by omega) ▸ m_cw_17
            · by_cases h19 : m < 19
              · exact (show m = 18 by omega) ▸ m_cw_18
              · by_cases h20 : m < 20
                · exact (show m = 19 by omega) ▸ m_cw_19
                · exact (show m = 20 by omega) ▸ m_cw_20
      · by_cases h32 : m < 32
        · by_cases h26 : m < 26
          · by_cases h23 : m < 23
            · by_cases h22 : m < 22
              · exact (show m = 21 by omega) ▸ m_cw_21
              · exact (show m = 22 by omega) ▸ m_cw_22
            · by_cases h24 : m < 24
              · exact (show m = 23 by omega) ▸ m_cw_23
              · by_cases h25 : m < 25
                · exact (show m = 24 by omega) ▸ m_cw_24
                · exact (show m = 25 by omega) ▸ m_cw_25
          · by_cases h29 : m < 29
            · by_cases h27 : m < 27
              · exact (show m = 26 by omega) ▸ m_cw_26
              · by_cases h28 : m < 28
                · exact (show m = 27 by omega) ▸ m_cw_27
                · exact (show m = 28 by omega) ▸ m_cw_28
            · by_cases h30 : m < 30
              · exact (show m = 29 by omega) ▸ m_cw_29
              · by_cases h31 : m < 31
                · exact (show m = 30 by omega) ▸ m_cw_30
                · exact (show m = 31 by omega) ▸ m_cw_31
        · by_cases h37 : m < 37
          · by_cases h34 : m < 34
            · by_cases h33 : m < 33
              · exact (show m = 32 by omega) ▸ m_cw_32
              · exact (show m = 33 by omega) ▸ m_cw_33
            · by_cases h35 : m < 35
              · exact (show m = 34 by omega) ▸ m_cw_34
              · by_cases h36 : m < 36
                · exact (show m = 35 by omega) ▸ m_cw_35
                · exact (show m = 36 by omega) ▸ m_cw_36
          · by_cases h40 : m < 40
            · by_cases h38 : m < 38
              · exact (show m = 37 by omega) ▸ m_cw_37
              · by_cases h39 : m < 39
                · exact (show m = 38 by omega) ▸ m_cw_38
                · exact (show m = 39 by omega) ▸ m_cw_39
            · by_cases h41 : m < 41
              · exact (show m = 40 by omega) ▸ m_cw_40
              · by_cases h42 : m < 42
                · exact (show m = 41 by omega) ▸ m_cw_41
                · exact (show m = 42 by omega) ▸ m_cw_42
    · by_cases h65 : m < 65
      · by_cases h54 : m < 54
        · by_cases h48 : m < 48
          · by_cases h45 : m < 45
            · by_cases h44 : m < 44
              · exact (show m = 43 by omega) ▸ m_cw_43
              · exact (show m = 44 by omega) ▸ m_cw_44
            · by_cases h46 : m < 46
              · exact (show m = 45 by omega) ▸ m_cw_45
              · by_cases h47 : m < 47
                · exact (show m = 46 by omega) ▸ m_cw_46
                · exact (show m = 47 by omega) ▸ m_cw_47
          · by_cases h51 : m < 51
            · by_cases h49 : m < 49
              · exact (show m = 48 by omega) ▸ m_cw_48
              · by_cases h50 : m < 50
                · exact (show m = 49 by omega) ▸ m_cw_49
                · exact (show m = 50 by omega) ▸ m_cw_50
            · by_cases h52 : m < 52
              · exact (show m = 51 by omega) ▸ m_cw_51
              · by_cases h53 : m < 53
                · exact (show m = 52 by omega) ▸ m_cw_52
                · exact (show m = 53 by omega) ▸ m_cw_53
        · by_cases h59 : m < 59
          · by_cases h56 : m < 56
            · by_cases h55 : m < 55
              · exact (show m = 54 by omega) ▸ m_cw_54
              · exact (show m = 55 by omega) ▸ m_cw_55
            · by_cases h57 : m < 57
              · exact (show m = 56 by omega) ▸ m_cw_56
              · by_cases h58 : m < 58
                · exact (show m = 57 by omega) ▸ m_cw_57
                · exact (show m = 58 by omega) ▸ m_cw_58
          · by_cases h62 : m < 62
            · by_cases h60 : m < 60
              · exact (show m = 59 by omega) ▸ m_cw_59
              · by_cases h61 : m < 61
                · exact (show m = 60 by omega) ▸ m_cw_60
                · exact (show m = 61 by omega) ▸ m_cw_61
            · by_cases h63 : m < 63
              · exact (show m = 62 by omega) ▸ m_cw_62
              · by_cases h64 : m < 64
                · exact (show m = 63 by omega) ▸ m_cw_63
                · exact (show m = 64 by omega) ▸ m_cw_64
      · by_cases h76 : m < 76
        · by_cases h70 : m < 70
          · by_cases h67 : m < 67
            · by_cases h66 : m < 66
              · exact (show m = 65 by omega) ▸ m_cw_65
              · exact (show m = 66 by omega) ▸ m_cw_66
            · by_cases h68 : m < 68
              · exact (show m = 67 by omega) ▸ m_cw_67
              · by_cases h69 : m < 69
                · exact (show m = 68 by omega) ▸ m_cw_68
                · exact (show m = 69 by omega) ▸ m_cw_69
          · by_cases h73 : m < 73
            · by_cases h71 : m < 71
              · exact (show m = 70 by omega) ▸ m_cw_70
              · by_cases h72 : m < 72
                · exact (show m = 71 by omega) ▸ m_cw_71
                · exact (show m = 72 by omega) ▸ m_cw_72
            · by_cases h74 : m < 74
              · exact (show m = 73 by omega) ▸ m_cw_73
              · by_cases h75 : m < 75
                · exact (show m = 74 by omega) ▸ m_cw_74
                · exact (show m = 75 by omega) ▸ m_cw_75
        · by_cases h81 : m < 81
          · by_cases h78 : m < 78
            · by_cases h77 : m < 77
              · exact (show m = 76 by omega) ▸ m_cw_76
              · exact (show m = 77 by omega) ▸ m_cw_77
            · by_cases h79 : m < 79
              · exact (show m = 78 by omega) ▸ m_cw_78
              · by_cases h80 : m < 80
                · exact (show m = 79 by omega) ▸ m_cw_79
                · exact (show m = 80 by omega) ▸ m_cw_80
          · by_cases h84 : m < 84
            · by_cases h82 : m < 82
              · exact (show m = 81 by omega) ▸ m_cw_81
              · by_cases h83 : m < 83
                · exact (show m = 82 by omega) ▸ m_cw_82
                · exact (show m = 83 by omega) ▸ m_cw_83
            · by_cases h85 : m < 85
              · exact (show m = 84 by omega) ▸ m_cw_84
              · by_cases h86 : m < 86
                · exact (show m = 85 by omega) ▸ m_cw_85
                · exact (show m = 86 by omega) ▸ m_cw_86
  · by_cases h130 : m < 130
    · by_cases h108 : m < 108
      · by_cases h97 : m < 97
        · by_cases h92 : m < 92
          · by_cases h89 : m < 89
            · by_cases h88 : m < 88
              · exact (show m = 87 by omega) ▸ m_cw_87
              · exact (show m = 88 by omega) ▸ m_cw_88
            · by_cases h90 : m < 90
              · exact (show m = 89 by omega) ▸ m_cw_89
              · by_cases h91 : m < 91
                · exact (show m = 90 by omega) ▸ m_cw_90
                · exact (show m = 91 by omega) ▸ m_cw_91
          · by_cases h94 : m < 94
            · by_cases h93 : m < 93
              · exact (show m = 92 by omega) ▸ m_cw_92
              · exact (show m = 93 by omega) ▸ m_cw_93
            · by_cases h95 : m < 95
              · exact (show m = 94 by omega) ▸ m_cw_94
              · by_cases h96 : m < 96
                · exact (show m = 95 by omega) ▸ m_cw_95
                · exact (show m = 96 by omega) ▸ m_cw_96
        · by_cases h102 : m < 102
          · by_cases h99 : m < 99
            · by_cases h98 : m < 98
              · exact (show m = 97 by omega) ▸ m_cw_97
              · exact (show m = 98 by omega) ▸ m_cw_98
            · by_cases h100 : m < 100
              · exact (show m = 99 by omega) ▸ m_cw_99
              · by_cases h101 : m < 101
                · exact (show m = 100 by omega) ▸ m_cw_100
                · exact (show m = 101 by omega) ▸ m_cw_101
          · by_cases h105 : m < 105
            · by_cases h103 : m < 103
              · exact (show m = 102 by omega) ▸ m_cw_102
              · by_cases h104 : m < 104
                · exact (show m = 103 by omega) ▸ m_cw_103
                · exact (show m = 104 by omega) ▸ m_cw_104
            · by_cases h106 : m < 106
              · exact (show m = 105 by omega) ▸ m_cw_105
              · by_cases h107 : m < 107
                · exact (show m = 106 by omega) ▸ m_cw_106
                · exact (show m = 107 by omega) ▸ m_cw_107
      · by_cases h119 : m < 119
        · by_cases h113 : m < 113
          · by_cases h110 : m < 110
            · by_cases h109 : m < 109
              · exact (show m = 108 by omega) ▸ m_cw_108
              · exact (show m = 109 by omega) ▸ m_cw_109
            · by_cases h111 : m < 111
              · exact (show m = 110 by omega) ▸ m_cw_110
              · by_cases h112 : m < 112
                · exact (show m = 111 by omega) ▸ m_cw_111
                · exact (show m = 112 by omega) ▸ m_cw_112
          · by_cases h116 : m < 116
            · by_cases h114 : m < 114
              · exact (show m = 113 by omega) ▸ m_cw_113
              · by_cases h115 : m < 115
                · exact (show m = 114 by omega) ▸ m_cw_114
                · exact (show m = 115 by omega) ▸ m_cw_115
            · by_cases h117 : m < 117
              · exact (show m = 116 by omega) ▸ m_cw_116
              · by_cases h118 : m < 118
                · exact (show m = 117 by omega) ▸ m_cw_117
                · exact (show m = 118 by omega) ▸ m_cw_118
        · by_cases h124 : m < 124
          · by_cases h121 : m < 121
            · by_cases h120 : m < 120
              · exact (show m = 119 by omega) ▸ m_cw_119
              · exact (show m = 120 by omega) ▸ m_cw_120
            · by_cases h122 : m < 122
              · exact (show m = 121 by omega) ▸ m_cw_121
              · by_cases h123 : m < 123
                · exact (show m = 122 by omega) ▸ m_cw_122
                · exact (show m = 123 by omega) ▸ m_cw_123
          · by_cases h127 : m < 127
            · by_cases h125 : m < 125
              · exact (show m = 124 by omega) ▸ m_cw_124
              · by_cases h126 : m < 126
                · exact (show m = 125 by omega) ▸ m_cw_125
                · exact (show m = 126 by omega) ▸ m_cw_126
            · by_cases h128 : m < 128
              · exact (show m = 127 by omega) ▸ m_cw_127
              · by_cases h129 : m < 129
                · exact (show m = 128 by omega) ▸ m_cw_128
                · exact (show m = 129 by omega) ▸ m_cw_129
    · by_cases h152 : m < 152
      · by_cases h141 : m < 141
        · by_cases h135 : m < 135
          · by_cases h132 : m < 132
            · by_cases h131 : m < 131
              · exact (show m = 130 by omega) ▸ m_cw_130
              · exact (show m = 131 by omega) ▸ m_cw_131
            · by_cases h133 : m < 133
              · exact (show m = 132 by omega) ▸ m_cw_132
              · by_cases h134 : m < 134
                · exact (show m = 133 by omega) ▸ m_cw_133
                · exact (show m = 134 by omega) ▸ m_cw_134
          · by_cases h138 : m < 138
            · by_cases h136 : m < 136
              · exact (show m = 135 by omega) ▸ m_cw_135
              · by_cases h137 : m < 137
                · exact (show m = 136 by omega) ▸ m_cw_136
                · exact (show m = 137 by omega) ▸ m_cw_137
            · by_cases h139 : m < 139
              · exact (show m = 138 by omega) ▸ m_cw_138
              · by_cases h140 : m < 140
                · exact (show m = 139 by omega) ▸ m_cw_139
                · exact (show m = 140 by omega) ▸ m_cw_140
        · by_cases h146 : m < 146
          · by_cases h143 : m < 143
            · by_cases h142 : m < 142
              · exact (show m = 141 by omega) ▸ m_cw_141
              · exact (show m = 142 by omega) ▸ m_cw_142
            · by_cases h144 : m < 144
              · exact (show m = 143 by omega) ▸ m_cw_143
              · by_cases h145 : m < 145
                · exact (show m = 144 by omega) ▸ m_cw_144
                · exact (show m = 145 by omega) ▸ m_cw_145
          · by_cases h149 : m < 149
            · by_cases h147 : m < 147
              · exact (show m = 146 by omega) ▸ m_cw_146
              · by_cases h148 : m < 148
                · exact (show m = 147 by omega) ▸ m_cw_147
                · exact (show m = 148 by omega) ▸ m_cw_148
            · by_cases h150 : m < 150
              · exact (show m = 149 by omega) ▸ m_cw_149
              · by_cases h151 : m < 151
                · exact (show m = 150 by omega) ▸ m_cw_150
                · exact (show m = 151 by omega) ▸ m_cw_151
      · by_cases h163 : m < 163
        · by_cases h157 : m < 157
          · by_cases h154 : m < 154
            · by_cases h153 : m < 153
              · exact (show m = 152 by omega) ▸ m_cw_152
              · exact (show m = 153 by omega) ▸ m_cw_153
            · by_cases h155 : m < 155
              · exact (show m = 154 by omega) ▸ m_cw_154
              · by_cases h156 : m < 156
                · exact (show m = 155 by omega) ▸ m_cw_155
                · exact (show m = 156 by omega) ▸ m_cw_156
          · by_cases h160 : m < 160
            · by_cases h158 : m < 158
              · exact (show m = 157 by omega) ▸ m_cw_157
              · by_cases h159 : m < 159
                · exact (show m = 158 by omega) ▸ m_cw_158
                · exact (show m = 159 by omega) ▸ m_cw_159
            · by_cases h161 : m < 161
              · exact (show m = 160 by omega) ▸ m_cw_160
              · by_cases h162 : m < 162
                · exact (show m = 161 by omega) ▸ m_cw_161
                · exact (show m = 162 by omega) ▸ m_cw_162
        · by_cases h168 : m < 168
          · by_cases h165 : m < 165
            · by_cases h164 : m < 164
              · exact (show m = 163 by omega) ▸ m_cw_163
              · exact (show m = 164 by omega) ▸ m_cw_164
            · by_cases h166 : m < 166
              · exact (show m = 165 by omega) ▸ m_cw_165
              · by_cases h167 : m < 167
                · exact (show m = 166 by omega) ▸ m_cw_166
                · exact (show m = 167 by omega) ▸ m_cw_167
          · by_cases h171 : m < 171
            · by_cases h169 : m < 169
              · exact (show m = 168 by omega) ▸ m_cw_168
              · by_cases h170 : m < 170
                · exact (show m = 169 by omega) ▸ m_cw_169
                · exact (show m = 170 by omega) ▸ m_cw_170
            · by_cases h172 : m < 172
              · exact (show m = 171 by omega) ▸ m_cw_171
              · by_cases h173 : m < 173
                · exact (show m = 172 by omega) ▸ m_cw_172
                · exact (show m = 173 by omega) ▸ m_cw_173
theorem m_okR_all : (List.range 175).all m_okR = true := by decide +kernel
theorem m_okR_at {m : Nat} (h : m < 175) : m_okR m = true := List.all_eq_true.mp m_okR_all m (List.mem_range.mpr h)
def m_LY : List (Nat × Nat × List Nat) := [(155, 68, [173, 175, 177, 179, 181, 183, 185]), (647, 78, [658, 660, 662]), (189, 69, [202, 204, 206, 208]), (364, 72, [429, 431, 433, 435, 437, 439, 441, 443, 445, 447, 449, 451, 453, 455, 457, 459]), (94, 66, [114, 116, 118, 120, 122, 124, 126, 128]), (212, 70, [219, 221]), (469, 76, [478, 480]), (134, 67, [145, 147, 149, 151]), (80, 64, [239, 241, 243, 245, 247, 249, 251, 253, 255, 257, 259, 261, 263, 265, 267]), (794, 71, [837, 839, 841, 843, 845, 847, 849, 851, 853, 855, 857, 859, 861, 863, 865, 867, 869, 871, 873, 875, 877, 879, 881, 883, 885, 887, 889, 891, 893, 895, 897, 899, 901, 903, 905, 907, 909, 911])]
def m_okK (c : Nat) : Bool := m_at (m_LY.getD c (0, 0, [])).1 (.instantiable (m_Rn c) (m_nf c)) && m_at (m_LY.getD c (0, 0, [])).2.1 (.initialized (m_Rn c)) && decide (((m_LY.getD c (0, 0, [])).2.2).length = m_nf c) && (List.range (m_nf c)).all (fun k => m_at ((m_LY.getD c (0, 0, [])).2.2.getD k 0) (u_lay (m_Rn c) (m_T c) k)) && decide (vwCl[c]?.map (fun q => (q.1, q.2.2)) = some (m_Rn c, m_nf c))
theorem m_okK_all : (List.range 10).all m_okK = true := by decide +kernel
theorem m_okK_at {c : Nat} (h : c < 10) : m_okK c = true := List.all_eq_true.mp m_okK_all c (List.mem_range.mpr h)
theorem m_vw {c : Nat} (h : c < 10) : vwCl[c]? = some (m_Rn c, m_T c, m_nf c) := by
  rcases (show c = 0 ∨ c = 1 ∨ c = 2 ∨ c = 3 ∨ c = 4 ∨ c = 5 ∨ c = 6 ∨ c = 7 ∨ c = 8 ∨ c = 9 by omega) with rfl | rfl | rfl | rfl | rfl | rfl | rfl | rfl | rfl | rfl <;> rfl
theorem m_tyok {c : Nat} (h : c < 10) : ∀ k, k < m_nf c → parseFieldDescriptor (m_T c k).2.2.1 = some (m_ty c k) := by
  rcases (show c = 0 ∨ c = 1 ∨ c = 2 ∨ c = 3 ∨ c = 4 ∨ c = 5 ∨ c = 6 ∨ c = 7 ∨ c = 8 ∨ c = 9 by omega) with rfl | rfl | rfl | rfl | rfl | rfl | rfl | rfl | rfl | rfl
  · exact tyX0_ok
  · exact tyX1_ok
  · exact tyX2_ok
  · exact tyX3_ok
  · exact tyX4_ok
  · exact tyX5_ok
  · exact tyX7_ok
  · exact tyX8_ok
  · exact tyX9_ok
  · exact tyX10_ok
theorem m_nmok {c : Nat} (h : c < 10) : ∀ a, a < m_nf c → ∀ b, b < m_nf c → a ≠ b → (m_T c a).2.1 ≠ (m_T c b).2.1 := by
  rcases (show c = 0 ∨ c = 1 ∨ c = 2 ∨ c = 3 ∨ c = 4 ∨ c = 5 ∨ c = 6 ∨ c = 7 ∨ c = 8 ∨ c = 9 by omega) with rfl | rfl | rfl | rfl | rfl | rfl | rfl | rfl | rfl | rfl
  · exact nmX0
  · exact nmX1
  · exact nmX2
  · exact nmX3
  · exact nmX4
  · exact nmX5
  · exact nmX7
  · exact nmX8
  · exact nmX9
  · exact nmX10
theorem m_layok {c : Nat} (h : c < 10) : ∀ w ∈ u_ws (m_Rn c) (m_T c) (m_nf c), w ∈ m_TB := by
  intro w hw
  obtain ⟨k, hk, rfl⟩ := List.mem_map.mp hw
  have q := m_okK_at h
  unfold m_okK at q
  simp only [Bool.and_eq_true] at q
  exact m_at_in (List.all_eq_true.mp q.1.2 k hk)
theorem m_inst {c : Nat} (h : c < 10) : Cond.instantiable (m_Rn c) (m_nf c) ∈ m_TB := by
  have q := m_okK_at h
  unfold m_okK at q
  simp only [Bool.and_eq_true] at q
  exact m_at_in q.1.1.1.1
theorem m_init {c : Nat} (h : c < 10) : Cond.initialized (m_Rn c) ∈ m_TB := by
  have q := m_okK_at h
  unfold m_okK at q
  simp only [Bool.and_eq_true] at q
  exact m_at_in q.1.1.1.2
def m_okF (q : Nat × Nat × (Nat × Nat) × Nat) : Bool := m_at q.2.2.2 (.fieldLink (m_oN q.1) q.2.1 (m_T q.2.2.1.1 q.2.2.1.2).1 (m_T q.2.2.1.1 q.2.2.1.2).2.1 (m_T q.2.2.1.1 q.2.2.1.2).2.2.1) && decide (q.2.2.1.1 < 10) && decide (q.2.2.1.2 < m_nf q.2.2.1.1)
theorem m_okF_all : m_LF.all m_okF = true := by decide +kernel
def m_okI (q : Nat × Nat × Int32 × Nat) : Bool := m_at q.2.2.2 (.constant (m_oN q.1) q.2.1 q.2.2.1)
theorem m_okI_all : m_LI.all m_okI = true := by decide +kernel
def m_okJ (q : Nat × Nat × Int64 × Nat) : Bool := m_at q.2.2.2 (.constantLong (m_oN q.1) q.2.1 q.2.2.1)
theorem m_okJ_all : m_LJ.all m_okJ = true := by decide +kernel
def m_okC (q : Nat × Nat × Nat × Nat) : Bool := m_at q.2.2.2 (.classLink (m_oN q.1) q.2.1 (m_Rn q.2.2.1)) && decide (q.2.2.1 < 10)
theorem m_okC_all : m_LC.all m_okC = true := by decide +kernel
def m_npar (y : MethodName) : Option Nat := (parseMethodDescriptor y.desc).map (fun d => d.parameters.length)
theorem m_mx_cw : m_cw m_mx = .code Lib.Math.max.name Lib.Math.max.code 2 (some .int) := by rfl
theorem m_mx_nam : m_nam m_mx = Lib.Math.max.name := by rfl
def m_okT (q : Nat × Nat × (Nat × Nat) × Nat × (Nat × Nat × Nat × Nat)) : Bool := decide (q.2.2.1.1 < 174) && (decide (q.2.2.1.1 = m_mx) || plainName (m_nam q.2.2.1.1).cls) && decide (m_npar (m_nam q.2.2.1.1) = some q.2.2.1.2) && m_at q.2.2.2.2.2.1 (.static (m_nam q.2.2.1.1)) && m_at q.2.2.2.2.2.2.1 (.initialized (m_nam q.2.2.1.1).cls) &&
  (match q.2.2.2.1 with
    | 0 => m_at q.2.2.2.2.1 (.methodLink (m_oN q.1) q.2.1 (m_nam q.2.2.1.1))
    | 1 => m_atN q.2.2.2.2.1 (.methodLinkNest (m_oN q.1) q.2.1 (m_nam q.2.2.1.1) "RowsDrawn")
    | _ => m_at q.2.2.2.2.1 (.methodLink (m_oN q.1) q.2.1 ⟨m_oN q.1, (m_nam q.2.2.1.1).name, (m_nam q.2.2.1.1).desc⟩) && m_at (q.2.2.2.2.1 + 1) (.sameMethod (m_oN q.1) (m_nam q.2.2.1.1).cls (m_nam q.2.2.1.1).name (m_nam q.2.2.1.1).desc))
theorem m_okT_all : m_LT.all m_okT = true := by decide +kernel
def m_okV (q : Nat × Nat × (Nat × List (Nat × Nat)) × Nat × MethodName × (Nat × List (Nat × Nat × Nat × Nat) × Nat × Nat)) : Bool :=
  m_at q.2.2.2.2.2.1 (.methodLink (m_oN q.1) q.2.1 q.2.2.2.2.1) && decide (m_npar q.2.2.2.2.1 = some q.2.2.1.1) && decide (q.2.2.1.2.length = q.2.2.2.2.2.2.1.length) &&
  (List.range q.2.2.1.2.length).all (fun j => decide ((q.2.2.1.2.getD j (0, 0)).1 < 10) && decide ((q.2.2.1.2.getD j (0, 0)).2 < 174) && plainName (m_nam (q.2.2.1.2.getD j (0, 0)).2).cls && decide ((m_nam (q.2.2.1.2.getD j (0, 0)).2).cls = m_Rn (q.2.2.1.2.getD j (0, 0)).1) &&
    m_at (q.2.2.2.2.2.2.1.getD j (0, 0, 0, 0)).1 (.instanceMethod (m_nam (q.2.2.1.2.getD j (0, 0)).2)) && m_at (q.2.2.2.2.2.2.1.getD j (0, 0, 0, 0)).2.1 (.selects (m_Rn (q.2.2.1.2.getD j (0, 0)).1) q.2.2.2.2.1 (m_nam (q.2.2.1.2.getD j (0, 0)).2)) && m_at (q.2.2.2.2.2.2.1.getD j (0, 0, 0, 0)).2.2.1 (.initialized (m_Rn (q.2.2.1.2.getD j (0, 0)).1))) &&
  (match q.2.2.2.1 with
    | 0 => (List.range q.2.2.1.2.length).all (fun j => decide (m_nam (q.2.2.1.2.getD j (0, 0)).2 = q.2.2.2.2.1))
    | _ => m_at q.2.2.2.2.2.2.2.1 (.sameMethod q.2.2.2.2.1.cls q.2.2.2.2.1.cls q.2.2.2.2.1.name q.2.2.2.2.1.desc) && m_atN q.2.2.2.2.2.2.2.2 (.declares q.2.2.2.2.1) && decide (q.2.2.2.2.1.cls ≠ "java/lang/invoke/MethodHandle") && decide (q.2.2.2.2.1.cls ≠ "java/lang/invoke/VarHandle"))
theorem m_okV_0 : m_LV0.all m_okV = true := by decide +kernel
theorem m_okV_1 : m_LV1.all m_okV = true := by decide +kernel
theorem m_okV_2 : m_LV2.all m_okV = true := by decide +kernel
theorem m_okV_3 : m_LV3.all m_okV = true := by decide +kernel
theorem m_okV_all : m_LV.all m_okV = true := by
  unfold m_LV
  simp only [List.all_append, m_okV_0, m_okV_1, m_okV_2, m_okV_3, Bool.and_self]
def m_okP (q : Nat × Nat × Option (Nat × Nat) × Nat × (Nat × Nat × Nat × Nat)) : Bool := match q.2.2.1 with
  | none => m_at q.2.2.2.2.1 (.methodLink (m_oN q.1) q.2.1 Lib.objectInit) && m_at 85 (.instanceMethod Lib.objectInit) && m_at 86 (.code Lib.objectInit ⟨#[0xb1]⟩ 1 none)
  | some z => decide (z.1 < 174) && plainName (m_nam z.1).cls && decide (m_npar (m_nam z.1) = some z.2) && decide ((m_nam z.1).name = "<init>") && decide (m_ret z.1 = none) && m_at q.2.2.2.2.2.1 (.instanceMethod (m_nam z.1)) && m_at q.2.2.2.2.2.2.1 (.initialized (m_nam z.1).cls) &&
    (match q.2.2.2.1 with
      | 0 => m_at q.2.2.2.2.1 (.methodLink (m_oN q.1) q.2.1 (m_nam z.1))
      | _ => m_atN q.2.2.2.2.1 (.methodLinkNest (m_oN q.1) q.2.1 (m_nam z.1) "RowsDrawn"))
theorem m_okP_all : m_LP.all m_okP = true := by decide +kernel
theorem m_find {α : Type} {l : List (Nat × Nat × α)} {o i : Nat} {q : Nat × Nat × α} (h : l.find? (fun q => q.1 == o && q.2.1 == i) = some q) : q ∈ l ∧ q.1 = o ∧ q.2.1 = i := by
  have h1 := List.find?_some h
  simp only [Bool.and_eq_true, beq_iff_eq] at h1
  exact ⟨List.mem_of_find?_eq_some h, h1⟩
end
section
/-! A small machine over cells, on which the bytecode of every method is run; part 'sound' ties it to the JVM's. -/
abbrev mE : Type := (Nat × Nat × (Nat → Int32)) ⊕ ((Nat × Nat × (Nat → Option Nat)) ⊕ (Nat × List Value))
abbrev mM : Type := (Nat × Nat) × ((Nat × (Nat → Int32)) × (Nat → Option mE))
abbrev mX : Type := (Nat × List Value × List Value × mM) ⊕ (Option Value ⊕ (Nat × List Value × List Value))
abbrev mO : Type := Option (Option Value × mM)
abbrev m_ia (k n : Nat) (f : Nat → Int32) : mE := .inl (k, n, f)
abbrev m_ra (c n : Nat) (f : Nat → Option Nat) : mE := .inr (.inl (c, n, f))
abbrev m_ob (c : Nat) (fs : List Value) : mE := .inr (.inr (c, fs))
def mN (μ : mM) : Nat := μ.1.1
def mS (μ : mM) : Nat := μ.1.2
def mF (μ : mM) (a : Nat) : Option mE := μ.2.2 a
def m_set (μ : mM) (a : Nat) (e : mE) : mM := (μ.1, μ.2.1, va_up μ.2.2 a (some e))
def m_new (μ : mM) (k : Nat) (e : mE) : mM := ((μ.1.1 + 1, μ.1.2 + k), μ.2.1, va_up μ.2.2 μ.1.1 (some e))
abbrev m_d : Value := .retAddr 1
abbrev m_scr : Value := .retAddr 0
def m_ix (i : Int32) (n : Nat) : Bool := decide (0 ≤ i) && decide (i.toNatClampNeg < n)
-- reads and writes
def m_gf (μ : mM) (a c k : Nat) : Option Value := match mF μ a with
  | some (.inr (.inr q)) => if q.1 = c then q.2[k]? else none
  | _ => none
def m_pf (μ : mM) (a c k : Nat) (ty : FieldType) (v : Value) : Option mM := match mF μ a with
  | some (.inr (.inr q)) => if q.1 = c ∧ k < q.2.length ∧ fits ty v = true ∧ narrow ty v = v then some (m_set μ a (m_ob c (q.2.set k v))) else none
  | _ => none
def m_ga (μ : mM) (a : Nat) (i : Int32) : Option Int32 := match mF μ a with
  | some (.inl q) => if q.1 = 0 ∧ m_ix i q.2.1 = true then some (q.2.2 i.toNatClampNeg) else none
  | _ => none
def m_gb (μ : mM) (a : Nat) (i : Int32) : Option Int32 := match mF μ a with
  | some (.inl q) => if (q.1 = 1 ∨ q.1 = 2) ∧ m_ix i q.2.1 = true then some (q.2.2 i.toNatClampNeg) else none
  | _ => none
def m_gs (μ : mM) (i : Int32) : Option Int32 := if m_ix i μ.2.1.1 = true then some (μ.2.1.2 i.toNatClampNeg) else none
def m_pa (μ : mM) (a : Nat) (i x : Int32) : Option mM := match mF μ a with
  | some (.inl q) => if q.1 = 0 ∧ m_ix i q.2.1 = true then some (m_set μ a (m_ia 0 q.2.1 (upd q.2.2 i.toNatClampNeg x))) else none
  | _ => none
def m_pb (μ : mM) (a : Nat) (i x : Int32) : Option mM := match mF μ a with
  | some (.inl q) => if (q.1 = 1 ∨ q.1 = 2) ∧ m_ix i q.2.1 = true then some (m_set μ a (m_ia q.1 q.2.1 (upd q.2.2 i.toNatClampNeg (vp_nar (if q.1 = 1 then .boolean else .byte) x)))) else none
  | _ => none
def m_gr (μ : mM) (a : Nat) (i : Int32) : Option (Option Nat) := match mF μ a with
  | some (.inr (.inl q)) => if m_ix i q.2.1 = true then some (q.2.2 i.toNatClampNeg) else none
  | _ => none
def m_pr (μ : mM) (a : Nat) (i : Int32) (v : Nat) : Option mM := match mF μ a, mF μ v with
  | some (.inr (.inl q)), some (.inr (.inr o)) => if o.1 = q.1 ∧ m_ix i q.2.1 = true then some (m_set μ a (m_ra q.1 q.2.1 (va_up q.2.2 i.toNatClampNeg (some v)))) else none
  | _, _ => none
def m_ln (μ : mM) (a : Nat) : Option Nat := match mF μ a with
  | some (.inl q) => some q.2.1
  | some (.inr (.inl q)) => some q.2.1
  | _ => none
def m_oc (μ : mM) (a : Nat) : Option Nat := match mF μ a with
  | some (.inr (.inr q)) => some q.1
  | _ => none
-- shapes of the stack
def p_i (st : List Value) (k : Int32 → List Value → Option mX) : Option mX := match st with
  | .int x :: r => k x r
  | _ => none
def p_ii (st : List Value) (k : Int32 → Int32 → List Value → Option mX) : Option mX := match st with
  | .int y :: .int x :: r => k x y r
  | _ => none
def p_l (st : List Value) (k : Int64 → List Value → Option mX) : Option mX := match st with
  | .long x :: r => k x r
  | _ => none
def p_ll (st : List Value) (k : Int64 → Int64 → List Value → Option mX) : Option mX := match st with
  | .long y :: .long x :: r => k x y r
  | _ => none
def p_li (st : List Value) (k : Int64 → Int32 → List Value → Option mX) : Option mX := match st with
  | .int y :: .long x :: r => k x y r
  | _ => none
def p_r (st : List Value) (k : Nat → List Value → Option mX) : Option mX := match st with
  | .ref a :: r => k a r
  | _ => none
def p_vr (st : List Value) (k : Nat → Value → List Value → Option mX) : Option mX := match st with
  | v :: .ref a :: r => k a v r
  | _ => none
def p_ri (st : List Value) (k : Nat → Int32 → List Value → Option mX) : Option mX := match st with
  | .int i :: .ref a :: r => k a i r
  | _ => none
def p_rii (st : List Value) (k : Nat → Int32 → Int32 → List Value → Option mX) : Option mX := match st with
  | .int x :: .int i :: .ref a :: r => k a i x r
  | _ => none
def p_rir (st : List Value) (k : Nat → Int32 → Nat → List Value → Option mX) : Option mX := match st with
  | .ref v :: .int i :: .ref a :: r => k a i v r
  | _ => none
def x_to (pc : Nat) (off : Int) : Nat := ((pc : Int) + off).toNat
def x_br (pc : Nat) (off : Int) (L st : List Value) (μ : mM) (b : Prop) [Decidable b] : Option mX :=
  if 0 ≤ (pc : Int) + off then (if b then some (.inl (x_to pc off, L, st, μ)) else some (.inl (pc + 3, L, st, μ))) else none
def x_st (m i : Nat) (v : Value) (L : List Value) : List Value := if (m_LS m).contains (i - 1) && decide (0 < i) then (L.set i v).set (i - 1) m_d else L.set i v
def x_ist (m pc i : Nat) (L st : List Value) (μ : mM) : Option mX := p_i st fun x r => if i < L.length then some (.inl (pc, x_st m i (.int x) L, r, μ)) else none
def x_lst (m pc i : Nat) (L st : List Value) (μ : mM) : Option mX := p_l st fun x r => if i + 1 < L.length ∧ (m_LS m).contains i = true then some (.inl (pc, x_st m i (.long x) ((L.set (i + 1) m_d)), r, μ)) else none
def x_ast (m pc i : Nat) (L st : List Value) (μ : mM) : Option mX := match st with
  | .ref a :: r => if i < L.length then some (.inl (pc, x_st m i (.ref a) L, r, μ)) else none
  | .null :: r => if i < L.length then some (.inl (pc, x_st m i .null L, r, μ)) else none
  | _ => none
def x_ild (pc i : Nat) (L st : List Value) (μ : mM) : Option mX := match L[i]? with
  | some (.int x) => some (.inl (pc, L, .int x :: st, μ))
  | _ => none
def x_lld (pc i : Nat) (L st : List Value) (μ : mM) : Option mX := match L[i]? with
  | some (.long x) => some (.inl (pc, L, .long x :: st, μ))
  | _ => none
def x_ald (pc i : Nat) (L st : List Value) (μ : mM) : Option mX := match L[i]? with
  | some (.ref x) => some (.inl (pc, L, .ref x :: st, μ))
  | some .null => some (.inl (pc, L, .null :: st, μ))
  | some (.retAddr 0) => some (.inl (pc, L, .retAddr 0 :: st, μ))
  | _ => none
/-- a call: n arguments and, where it has one, the object -/
def m_room (m cal : Nat) : Bool := decide (m_fr cal + 1 ≤ m_fr m) && decide (8 + (m_maxL cal + 11) + m_lo cal ≤ m_lo m)
def m_isA (m : Nat) : Bool := match m_ret m with
  | some (.object _) => true
  | some (.array _) => true
  | _ => false
def x_call (m cal n : Nat) (st : List Value) : Option mX :=
  if n ≤ st.length ∧ (st.drop n).length ≤ 4 ∧ ((st.take n).reverse.map (fun v => v.category)) = m_wid cal ∧ m_room m cal = true then some (.inr (.inr (cal, (st.take n).reverse, st.drop n))) else none
def x_recv (μ : mM) (n : Nat) (st : List Value) : Option Nat := match st[n]? with
  | some (.ref a) => m_oc μ a
  | _ => none
def x_fin (c k : Nat) : Bool := (m_T c k).2.2.2
def x_nf (c : Nat) : List Value := (List.range (m_nf c)).map (fun k => defaultValue (m_ty c k))
def x_new (pc c : Nat) (L st : List Value) (μ : mM) : Option mX := some (.inl (pc + 3, L, .ref (mN μ) :: st, m_new μ (m_nf c) (m_ob c (x_nf c))))
def x_nok (n : Int32) : Bool := decide (0 ≤ n) && decide (n ≤ 100000)
def x_tag (t : ArrayType) : Option Nat := match t with
  | .int => some 0
  | .boolean => some 1
  | .byte => some 2
  | _ => none
/-- how long an instruction is -/
def x_ln (i : Instr) : Nat := match i with
  | .bipush _ => 2
  | .iload _ => 2
  | .lload _ => 2
  | .aload _ => 2
  | .istore _ => 2
  | .lstore _ => 2
  | .astore _ => 2
  | .newarray _ => 2
  | .sipush _ => 3
  | .ldc_w _ => 3
  | .ldc2_w _ => 3
  | .iinc _ _ => 3
  | .goto _ => 3
  | .ifCond _ _ => 3
  | .if_icmp _ _ => 3
  | .ifnull _ => 3
  | .ifnonnull _ => 3
  | .getfield _ => 3
  | .putfield _ => 3
  | .new _ => 3
  | .anewarray _ => 3
  | .invokestatic _ => 3
  | .invokevirtual _ => 3
  | .invokespecial _ => 3
  | _ => 1
def x_lok (i : Instr) (len : Nat) : Bool := match i with
  | .tableswitch _ _ _ _ => true
  | .lookupswitch _ _ => true
  | i => len == x_ln i
/-- one instruction -/
def m_e0 (m pc : Nat) (L st : List Value) (μ : mM) (i : Instr) : Option mX := match i with
  | .iconst n => some (.inl (pc + 1, L, .int (Int32.ofInt n) :: st, μ))
  | .bipush n => some (.inl (pc + 2, L, .int (Int8.ofInt n).toInt32 :: st, μ))
  | .sipush n => some (.inl (pc + 3, L, .int (Int16.ofInt n).toInt32 :: st, μ))
  | .lconst n => some (.inl (pc + 1, L, .long (Int64.ofNat (n : Nat)) :: st, μ))
  | .ldc_w i => (m_lkI (m_own m) i).map fun v => .inl (pc + 3, L, .int v :: st, μ)
  | .ldc2_w i => (m_lkJ (m_own m) i).map fun v => .inl (pc + 3, L, .long v :: st, μ)
  | .aconst_null => some (.inl (pc + 1, L, .null :: st, μ))
  | .iload i => x_ild (pc + 2) i L st μ
  | .iload_n i => x_ild (pc + 1) (i : Nat) L st μ
  | .lload i => x_lld (pc + 2) i L st μ
  | .lload_n i => x_lld (pc + 1) (i : Nat) L st μ
  | .aload i => x_ald (pc + 2) i L st μ
  | .aload_n i => x_ald (pc + 1) (i : Nat) L st μ
  | .istore i => x_ist m (pc + 2) i L st μ
  | .istore_n i => x_ist m (pc + 1) (i : Nat) L st μ
  | .lstore i => x_lst m (pc + 2) i L st μ
  | .lstore_n i => x_lst m (pc + 1) (i : Nat) L st μ
  | .astore i => x_ast m (pc + 2) i L st μ
  | .astore_n i => x_ast m (pc + 1) (i : Nat) L st μ
  | .iinc i n => match L[i]? with
    | some (.int x) => some (.inl (pc + 3, x_st m i (.int (x + Int32.ofInt n)) L, st, μ))
    | _ => none
  | .iadd => p_ii st fun x y r => some (.inl (pc + 1, L, .int (x + y) :: r, μ))
  | .isub => p_ii st fun x y r => some (.inl (pc + 1, L, .int (x - y) :: r, μ))
  | .imul => p_ii st fun x y r => some (.inl (pc + 1, L, .int (x * y) :: r, μ))
  | .iand => p_ii st fun x y r => some (.inl (pc + 1, L, .int (x &&& y) :: r, μ))
  | .ior => p_ii st fun x y r => some (.inl (pc + 1, L, .int (x ||| y) :: r, μ))
  | .ixor => p_ii st fun x y r => some (.inl (pc + 1, L, .int (x ^^^ y) :: r, μ))
  | .ishl => p_ii st fun x y r => some (.inl (pc + 1, L, .int (x <<< (y &&& 31)) :: r, μ))
  | .ishr => p_ii st fun x y r => some (.inl (pc + 1, L, .int (x >>> (y &&& 31)) :: r, μ))
  | .iushr => p_ii st fun x y r => some (.inl (pc + 1, L, .int (x.toUInt32 >>> (y.toUInt32 &&& Int32.toUInt32 31)).toInt32 :: r, μ))
  | .idiv => p_ii st fun x y r => if y = 0 then none else some (.inl (pc + 1, L, .int (x / y) :: r, μ))
  | .irem => p_ii st fun x y r => if y = 0 then none else some (.inl (pc + 1, L, .int (x - x / y * y) :: r, μ))
  | .ineg => p_i st fun x r => some (.inl (pc + 1, L, .int (-x) :: r, μ))
  | .ladd => p_ll st fun x y r => some (.inl (pc + 1, L, .long (x + y) :: r, μ))
  | .lmul => p_ll st fun x y r => some (.inl (pc + 1, L, .long (x * y) :: r, μ))
  | .land => p_ll st fun x y r => some (.inl (pc + 1, L, .long (x &&& y) :: r, μ))
  | .lor => p_ll st fun x y r => some (.inl (pc + 1, L, .long (x ||| y) :: r, μ))
  | .lcmp => p_ll st fun x y r => some (.inl (pc + 1, L, .int (lg_cmp x y) :: r, μ))
  | .lshl => p_li st fun x y r => some (.inl (pc + 1, L, .long (x <<< (y.toInt64 &&& 63)) :: r, μ))
  | .lushr => p_li st fun x y r => some (.inl (pc + 1, L, .long (x.toUInt64 >>> (y.toInt64.toUInt64 &&& Int64.toUInt64 63)).toInt64 :: r, μ))
  | .i2l => p_i st fun x r => some (.inl (pc + 1, L, .long x.toInt64 :: r, μ))
  | .l2i => p_l st fun x r => some (.inl (pc + 1, L, .int x.toInt32 :: r, μ))
  | .i2b => p_i st fun x r => some (.inl (pc + 1, L, .int x.toInt8.toInt32 :: r, μ))
  | .dup => match st with
    | .int x :: r => some (.inl (pc + 1, L, .int x :: .int x :: r, μ))
    | .ref x :: r => some (.inl (pc + 1, L, .ref x :: .ref x :: r, μ))
    | _ => none
  | .dup2 => p_ri st fun a i r => some (.inl (pc + 1, L, .int i :: .ref a :: .int i :: .ref a :: r, μ))
  | .goto off => if 0 ≤ (pc : Int) + off then some (.inl (x_to pc off, L, st, μ)) else none
  | .ifCond .eq off => p_i st fun x r => x_br pc off L r μ (x = 0)
  | .ifCond .ne off => p_i st fun x r => x_br pc off L r μ (¬ x = 0)
  | .ifCond .lt off => p_i st fun x r => x_br pc off L r μ (x < 0)
  | .ifCond .ge off => p_i st fun x r => x_br pc off L r μ (0 ≤ x)
  | .ifCond .gt off => p_i st fun x r => x_br pc off L r μ (0 < x)
  | .ifCond .le off => p_i st fun x r => x_br pc off L r μ (x ≤ 0)
  | .if_icmp .eq off => p_ii st fun x y r => x_br pc off L r μ (x = y)
  | .if_icmp .ne off => p_ii st fun x y r => x_br pc off L r μ (¬ x = y)
  | .if_icmp .lt off => p_ii st fun x y r => x_br pc off L r μ (x < y)
  | .if_icmp .ge off => p_ii st fun x y r => x_br pc off L r μ (y ≤ x)
  | .if_icmp .gt off => p_ii st fun x y r => x_br pc off L r μ (y < x)
  | .if_icmp .le off => p_ii st fun x y r => x_br pc off L r μ (x ≤ y)
  | .ifnull off => match st with
    | .ref _ :: r => some (.inl (pc + 3, L, r, μ))
    | .null :: r => if 0 ≤ (pc : Int) + off then some (.inl (x_to pc off, L, r, μ)) else none
    | _ => none
  | .ifnonnull off => match st with
    | .ref _ :: r => if 0 ≤ (pc : Int) + off then some (.inl (x_to pc off, L, r, μ)) else none
    | .null :: r => some (.inl (pc + 3, L, r, μ))
    | _ => none
  | .tableswitch d lo hi offs => p_i st fun x r =>
    if x.toInt < lo ∨ hi < x.toInt then (if 0 ≤ (pc : Int) + d then some (.inl (x_to pc d, L, r, μ)) else none)
    else (offs[(x.toInt - lo).toNat]?).bind fun off => if 0 ≤ (pc : Int) + off then some (.inl (x_to pc off, L, r, μ)) else none
  | .lookupswitch d ps => p_i st fun x r =>
    if (ps.toList.zip (ps.toList.drop 1)).all (fun (a, next) => a.1 < next.1) = true ∧ 0 ≤ (pc : Int) + Op.lookupswitch.offset ps.toList d x.toInt then some (.inl (x_to pc (Op.lookupswitch.offset ps.toList d x.toInt), L, r, μ)) else none
  | .getfield i => p_r st fun a r => (m_lkF (m_own m) i).bind fun q => (m_gf μ a q.1 q.2).map fun v => .inl (pc + 3, L, v :: r, μ)
  | .putfield i => p_vr st fun a v r => (m_lkF (m_own m) i).bind fun q => if x_fin q.1 q.2 = false ∨ ((m_nam m).name = "<init>" ∧ (m_T q.1 q.2).1 = (m_nam m).cls) then (m_pf μ a q.1 q.2 (m_ty q.1 q.2) v).map fun μ1 => .inl (pc + 3, L, r, μ1) else none
  | .iaload => match st with
    | .int i :: .ref a :: r => (m_ga μ a i).map fun x => .inl (pc + 1, L, .int x :: r, μ)
    | .int i :: .retAddr 0 :: r => (m_gs μ i).map fun x => .inl (pc + 1, L, .int x :: r, μ)
    | _ => none
  | .baload => p_ri st fun a i r => (m_gb μ a i).map fun x => .inl (pc + 1, L, .int x :: r, μ)
  | .aaload => p_ri st fun a i r => (m_gr μ a i).map fun x => .inl (pc + 1, L, va_rf x :: r, μ)
  | .iastore => p_rii st fun a i x r => (m_pa μ a i x).map fun μ1 => .inl (pc + 1, L, r, μ1)
  | .bastore => p_rii st fun a i x r => (m_pb μ a i x).map fun μ1 => .inl (pc + 1, L, r, μ1)
  | .aastore => p_rir st fun a i v r => (m_pr μ a i v).map fun μ1 => .inl (pc + 1, L, r, μ1)
  | .arraylength => match st with
    | .ref a :: r => (m_ln μ a).map fun n => .inl (pc + 1, L, .int (Int32.ofNat n) :: r, μ)
    | .retAddr 0 :: r => some (.inl (pc + 1, L, .int (Int32.ofNat μ.2.1.1) :: r, μ))
    | _ => none
  | .newarray t => p_i st fun n r => (x_tag t).bind fun k => if x_nok n = true then some (.inl (pc + 2, L, .ref (mN μ) :: r, m_new μ n.toNatClampNeg (m_ia k n.toNatClampNeg (fun _ => 0)))) else none
  | .anewarray i => p_i st fun n r => (m_lkC (m_own m) i).bind fun c => if x_nok n = true ∧ (c = 1 ∨ c = 3 ∨ c = 6) then some (.inl (pc + 3, L, .ref (mN μ) :: r, m_new μ n.toNatClampNeg (m_ra c n.toNatClampNeg (fun _ => none)))) else none
  | .new i => (m_lkC (m_own m) i).bind fun c => x_new pc c L st μ
  | .invokestatic i => (m_lkS (m_own m) i).bind fun q => if q.1 = m_mx then (p_ii st fun x y r => if r.length ≤ 4 ∧ 1 ≤ m_fr m ∧ 21 ≤ m_lo m then some (.inl (pc + 3, L, .int (if x < y then y else x) :: r, μ)) else none) else x_call m q.1 q.2 st
  | .invokevirtual i => (m_lkV (m_own m) i).bind fun q => (x_recv μ q.1 st).bind fun c => ((q.2.find? (fun z => z.1 == c)).bind fun z => x_call m z.2 (q.1 + 1) st)
  | .invokespecial i => (m_lkP (m_own m) i).bind fun q => match q with
    | none => p_r st fun _ r => if r.length ≤ 4 ∧ 1 ≤ m_fr m ∧ 20 ≤ m_lo m then some (.inl (pc + 3, L, r, μ)) else none
    | some z => match st[z.2]? with
      | some (.ref _) => x_call m z.1 (z.2 + 1) st
      | _ => none
  | .ireturn => match st with
    | [.int x] => if m_ret m = some .int ∨ (m_ret m = some .boolean ∧ x &&& 1 = x) then some (.inr (.inl (some (.int x)))) else none
    | _ => none
  | .lreturn => match st with
    | [.long x] => if m_ret m = some .long then some (.inr (.inl (some (.long x)))) else none
    | _ => none
  | .areturn => match st with
    | [.ref x] => if m_isA m = true then some (.inr (.inl (some (.ref x)))) else none
    | [.null] => if m_isA m = true then some (.inr (.inl (some .null))) else none
    | _ => none
  | .return_ => if st = [] ∧ m_ret m = none then some (.inr (.inl none)) else none
  | _ => none

def m_ex (m pc len : Nat) (L st : List Value) (μ : mM) (i : Instr) : Option mX := if x_lok i len = true then m_e0 m pc L st μ i else none
-- a run
def m_spread : List Value → List Value
  | [] => []
  | v :: r => if v.category = 2 then v :: m_d :: m_spread r else v :: m_spread r
def m_pad (m : Nat) (args : List Value) : List Value := m_spread args ++ List.replicate (m_maxL m - (m_spread args).length) m_d
def m_copy (args : List Value) (μ : mM) : mO := match args with
  | [.ref a, .int n] => match mF μ a with
    | some (.inl q) => if q.1 = 0 ∧ q.2.1 ≤ 100000 ∧ x_nok n = true then some (some (.ref (mN μ)), m_new μ n.toNatClampNeg (m_ia 0 n.toNatClampNeg (fun j => if j < q.2.1 then q.2.2 j else 0))) else none
    | _ => none
  | _ => none
def m_run : Nat → Nat → Nat → List Value → List Value → mM → mO
  | 0, _, _, _, _, _ => none
  | n + 1, m, pc, L, st, μ => match decode (m_code m) pc with
    | .error _ => none
    | .ok (i, len) => match m_ex m pc len L st μ i with
      | none => none
      | some (.inl c) => m_run n m c.1 c.2.1 c.2.2.1 c.2.2.2
      | some (.inr (.inl r)) => some (r, μ)
      | some (.inr (.inr q)) => (if q.1 = m_cp then m_copy q.2.1 μ else m_run n q.1 0 (m_pad q.1 q.2.1) [] μ).bind fun w => m_run n m (pc + 3) L (w.1.toList ++ q.2.2) w.2
theorem m_run_mono : ∀ (n m pc : Nat) (L st : List Value) (μ : mM) (r : Option Value × mM), m_run n m pc L st μ = some r → m_run (n + 1) m pc L st μ = some r := by
  intro n
  induction n with
  | zero => intro m pc L st μ r h; exact absurd h (by simp [m_run])
  | succ n ih =>
    intro m pc L st μ r h
    unfold m_run at h ⊢
    split at h
    · exact h
    · rename_i i len hd
      split at h
      · exact absurd h (by simp)
      · exact ih _ _ _ _ _ _ h
      · exact h
      · rename_i q hq
        by_cases hc : q.1 = m_cp
        · rw [if_pos hc] at h ⊢
          cases hm : m_copy q.2.1 μ with
          | none => rw [hm] at h; exact absurd h (by simp)
          | some w => rw [hm] at h; exact ih _ _ _ _ _ _ h
        · rw [if_neg hc] at h ⊢
          cases hm : m_run n q.1 0 (m_pad q.1 q.2.1) [] μ with
          | none => rw [hm] at h; exact absurd h (by simp)
          | some w =>
            rw [hm] at h
            rw [ih _ _ _ _ _ _ hm]
            exact ih _ _ _ _ _ _ h
theorem m_run_le {n k m pc : Nat} {L st : List Value} {μ : mM} {r : Option Value × mM} (h : m_run n m pc L st μ = some r) (hk : n ≤ k) : m_run k m pc L st μ = some r := by
  induction k with
  | zero => rw [Nat.le_zero.mp hk] at h; exact h
  | succ k ih =>
    rcases Nat.lt_or_ge n (k + 1) with q | q
    · exact m_run_mono _ _ _ _ _ _ _ (ih (by omega))
    · rw [← Nat.le_antisymm hk q]; exact h
/-- what a method comes to from a place -/
noncomputable def m_G (m pc : Nat) (L st : List Value) (μ : mM) : mO := @dite _ (∃ r, ∃ n, m_run n m pc L st μ = some r) (Classical.propDecidable _) (fun h => some (Classical.choose h)) (fun _ => none)
theorem m_G_iff {m pc : Nat} {L st : List Value} {μ : mM} {r : Option Value × mM} : m_G m pc L st μ = some r ↔ ∃ n, m_run n m pc L st μ = some r := by
  unfold m_G
  constructor
  · intro h
    split at h
    · rename_i q
      rw [← Option.some.inj h]
      exact Classical.choose_spec q
    · exact absurd h (by simp)
  · rintro ⟨n, hn⟩
    have q : ∃ r, ∃ n, m_run n m pc L st μ = some r := ⟨r, n, hn⟩
    rw [dif_pos q]
    obtain ⟨k, hk⟩ := Classical.choose_spec q
    have h1 := m_run_le hk (Nat.le_max_left k n)
    have h2 := m_run_le hn (Nat.le_max_right k n)
    rw [h1] at h2
    exact h2
/-- what a call comes to -/
noncomputable def m_D (m : Nat) (args : List Value) (μ : mM) : mO := if m = m_cp then m_copy args μ else m_G m 0 (m_pad m args) [] μ
theorem m_ext {a b : mO} (h : ∀ r, a = some r ↔ b = some r) : a = b := Option.ext h
theorem G_go {m pc len : Nat} {L st : List Value} {μ : mM} {i : Instr} {c : Nat × List Value × List Value × mM} (hd : decode (m_code m) pc = .ok (i, len)) (hx : m_ex m pc len L st μ i = some (.inl c)) : m_G m pc L st μ = m_G m c.1 c.2.1 c.2.2.1 c.2.2.2 := by
  refine m_ext fun r => ?_
  rw [m_G_iff, m_G_iff]
  constructor
  · rintro ⟨n, hn⟩
    cases n with
    | zero => exact absurd hn (by simp [m_run])
    | succ n => refine ⟨n, ?_⟩; unfold m_run at hn; simpa only [hd, hx] using hn
  · rintro ⟨n, hn⟩
    refine ⟨n + 1, ?_⟩
    unfold m_run
    simpa only [hd, hx] using hn
theorem G_no {m pc len : Nat} {L st : List Value} {μ : mM} {i : Instr} (hd : decode (m_code m) pc = .ok (i, len)) (hx : m_ex m pc len L st μ i = none) : m_G m pc L st μ = none := by
  refine m_ext fun r => ?_
  rw [m_G_iff]
  constructor
  · rintro ⟨n, hn⟩
    cases n with
    | zero => exact absurd hn (by simp [m_run])
    | succ n => unfold m_run at hn; simp only [hd, hx] at hn; exact absurd hn (by simp)
  · intro h; exact absurd h (by simp)
theorem G_ret {m pc len : Nat} {L st : List Value} {μ : mM} {i : Instr} {v : Option Value} (hd : decode (m_code m) pc = .ok (i, len)) (hx : m_ex m pc len L st μ i = some (.inr (.inl v))) : m_G m pc L st μ = some (v, μ) := by
  rw [m_G_iff]
  refine ⟨1, ?_⟩
  unfold m_run
  simp only [hd, hx]
theorem G_call {m pc len : Nat} {L st : List Value} {μ : mM} {i : Instr} {q : Nat × List Value × List Value} (hd : decode (m_code m) pc = .ok (i, len)) (hx : m_ex m pc len L st μ i = some (.inr (.inr q))) : m_G m pc L st μ = (m_D q.1 q.2.1 μ).bind fun w => m_G m (pc + 3) L (w.1.toList ++ q.2.2) w.2 := by
  refine m_ext fun r => ?_
  rw [m_G_iff]
  constructor
  · rintro ⟨n, hn⟩
    cases n with
    | zero => exact absurd hn (by simp [m_run])
    | succ n =>
      unfold m_run at hn
      simp only [hd, hx] at hn
      unfold m_D
      by_cases hc : q.1 = m_cp
      · rw [if_pos hc] at hn ⊢
        cases hm : m_copy q.2.1 μ with
        | none => rw [hm] at hn; exact absurd hn (by simp)
        | some w => rw [hm] at hn; exact m_G_iff.mpr ⟨n, hn⟩
      · rw [if_neg hc] at hn ⊢
        cases hm : m_run n q.1 0 (m_pad q.1 q.2.1) [] μ with
        | none => rw [hm] at hn; exact absurd hn (by simp)
        | some w =>
          rw [hm] at hn
          rw [m_G_iff.mpr ⟨n, hm⟩]
          exact m_G_iff.mpr ⟨n, hn⟩
  · intro h
    unfold m_D at h
    by_cases hc : q.1 = m_cp
    · rw [if_pos hc] at h
      cases hm : m_copy q.2.1 μ with
      | none => rw [hm] at h; exact absurd h (by simp)
      | some w =>
        rw [hm] at h
        obtain ⟨n, hn⟩ := m_G_iff.mp h
        refine ⟨n + 1, ?_⟩
        unfold m_run
        simp only [hd, hx]
        rw [if_pos hc, hm]
        exact hn
    · rw [if_neg hc] at h
      cases hm : m_G q.1 0 (m_pad q.1 q.2.1) [] μ with
      | none => rw [hm] at h; exact absurd h (by simp)
      | some w =>
        rw [hm] at h
        obtain ⟨n, hn⟩ := m_G_iff.mp h
        obtain ⟨k, hk⟩ := m_G_iff.mp hm
        refine ⟨max n k + 1, ?_⟩
        unfold m_run
        simp only [hd, hx]
        rw [if_neg hc, m_run_le hk (Nat.le_max_right n k)]
        exact m_run_le hn (Nat.le_max_left n k)
end
section
/-! what a cell of the machine is in the JVM's heap -/
def m_cv (bs b : Nat) (v : Value) : Value := match v with
  | .ref a => .ref (bs + a)
  | .retAddr 0 => .ref b
  | v => v
theorem m_cv_i (bs b : Nat) (x : Int32) : m_cv bs b (.int x) = .int x := rfl
theorem m_cv_l (bs b : Nat) (x : Int64) : m_cv bs b (.long x) = .long x := rfl
theorem m_cv_r (bs b a : Nat) : m_cv bs b (.ref a) = .ref (bs + a) := rfl
theorem m_cv_n (bs b : Nat) : m_cv bs b .null = .null := rfl
theorem m_cv_s (bs b : Nat) : m_cv bs b (.retAddr 0) = .ref b := rfl
theorem m_cv_cat (bs b : Nat) (v : Value) : (m_cv bs b v).category = v.category := by
  unfold m_cv
  split <;> rfl
theorem m_cv_rf (bs b : Nat) (o : Option Nat) : m_cv bs b (va_rf o) = va_rf (o.map (bs + ·)) := by cases o <;> rfl
def m_cE (dA dR : Nat → ClassId) (bs b : Nat) (e : mE) : va_E := match e with
  | .inl q => .inl (dA q.1, q.2.1, .inl q.2.2)
  | .inr (.inl q) => .inl (dR q.1, q.2.1, .inr (.inr (.inr (.inr (fun j => (q.2.2 j).map (bs + ·))))))
  | .inr (.inr q) => .inr (q.1, q.2.map (m_cv bs b))
def m_W (dA dR : Nat → ClassId) (bs b : Nat) (μ : mM) : va_W := (List.range (mN μ)).map fun a => (bs + a, m_cE dA dR bs b ((mF μ a).getD (m_ob 0 [])))
def m_oke (e : mE) : Prop := match e with
  | .inl q => q.1 ≤ 2
  | .inr (.inl q) => q.1 = 1 ∨ q.1 = 3 ∨ q.1 = 6
  | .inr (.inr q) => q.1 < 10
def m_wf (μ : mM) : Prop := (∀ a, (mF μ a).isSome = true ↔ a < mN μ) ∧ ∀ a e, mF μ a = some e → m_oke e
theorem m_wf.lt {μ : mM} (h : m_wf μ) {a : Nat} {e : mE} (he : mF μ a = some e) : a < mN μ := (h.1 a).mp (by rw [he]; rfl)
theorem m_set_N (μ : mM) (a : Nat) (e : mE) : mN (m_set μ a e) = mN μ := rfl
theorem m_set_S (μ : mM) (a : Nat) (e : mE) : mS (m_set μ a e) = mS μ := rfl
theorem m_new_N (μ : mM) (k : Nat) (e : mE) : mN (m_new μ k e) = mN μ + 1 := rfl
theorem m_new_S (μ : mM) (k : Nat) (e : mE) : mS (m_new μ k e) = mS μ + k := rfl
theorem m_set_F (μ : mM) (a : Nat) (e : mE) (j : Nat) : mF (m_set μ a e) j = if j = a then some e else mF μ j := rfl
theorem m_new_F (μ : mM) (k : Nat) (e : mE) (j : Nat) : mF (m_new μ k e) j = if j = mN μ then some e else mF μ j := rfl
theorem m_wf.set {μ : mM} (h : m_wf μ) {a : Nat} (ha : a < mN μ) {e : mE} (he : m_oke e) : m_wf (m_set μ a e) := by
  refine ⟨fun j => ?_, fun j e' hj => ?_⟩
  · rw [m_set_F, m_set_N]
    by_cases hj : j = a
    · subst hj; simp [ha]
    · rw [if_neg hj]; exact h.1 j
  · rw [m_set_F] at hj
    by_cases hja : j = a
    · rw [if_pos hja] at hj; cases hj; exact he
    · rw [if_neg hja] at hj; exact h.2 j e' hj
theorem m_wf.new {μ : mM} (h : m_wf μ) {k : Nat} {e : mE} (he : m_oke e) : m_wf (m_new μ k e) := by
  refine ⟨fun j => ?_, fun j e' hj => ?_⟩
  · rw [m_new_F, m_new_N]
    by_cases hj : j = mN μ
    · subst hj; simp
    · rw [if_neg hj, h.1 j]; omega
  · rw [m_new_F] at hj
    by_cases hja : j = mN μ
    · rw [if_pos hja] at hj; cases hj; exact he
    · rw [if_neg hja] at hj; exact h.2 j e' hj
section mrel
variable {dA dR : Nat → ClassId} {bs b : Nat}
theorem m_W_get {μ : mM} (h : m_wf μ) {a : Nat} {e : mE} (he : mF μ a = some e) : (m_W dA dR bs b μ)[a]? = some (bs + a, m_cE dA dR bs b e) := by
  unfold m_W
  rw [List.getElem?_map, List.getElem?_range (h.lt he)]
  simp [he]
theorem m_W_set {μ : mM} {a : Nat} (ha : a < mN μ) (e : mE) : (m_W dA dR bs b μ).set a (bs + a, m_cE dA dR bs b e) = m_W dA dR bs b (m_set μ a e) := by
  refine List.ext_getElem? fun j => ?_
  unfold m_W
  rw [m_set_N, List.getElem?_set, List.getElem?_map, List.getElem?_map]
  by_cases hj : a = j
  · subst hj
    rw [if_pos rfl]
    simp [ha, m_set_F, List.getElem?_range]
  · rw [if_neg hj]
    by_cases hl : j < mN μ
    · rw [List.getElem?_range hl]
      simp [m_set_F, Ne.symm hj]
    · rw [List.getElem?_eq_none (by simp; omega)]
      rfl
theorem m_W_new (μ : mM) (k : Nat) (e : mE) : m_W dA dR bs b (m_new μ k e) = m_W dA dR bs b μ ++ [(bs + mN μ, m_cE dA dR bs b e)] := by
  unfold m_W
  rw [m_new_N, List.range_succ, List.map_append]
  congr 1
  · refine List.map_congr_left fun j hj => ?_
    have : j < mN μ := List.mem_range.mp hj
    rw [m_new_F, if_neg (by omega)]
  · simp [m_new_F]
theorem m_W_at {μ : mM} {k : Nat} {q : Nat × va_E} (h : (m_W dA dR bs b μ)[k]? = some q) : k < mN μ ∧ q.1 = bs + k := by
  unfold m_W at h
  rw [List.getElem?_map] at h
  by_cases hk : k < mN μ
  · rw [List.getElem?_range hk] at h
    cases h
    exact ⟨hk, rfl⟩
  · rw [List.getElem?_eq_none (by simp; omega)] at h
    cases h
theorem m_W_D (μ : mM) : va_D (fun q => bs ≤ q) (m_W dA dR bs b μ) := by
  refine ⟨fun i j p q hi hj hpq => ?_, fun k q hk => ?_⟩
  · have h1 := m_W_at hi
    have h2 := m_W_at hj
    omega
  · have h1 := m_W_at hk
    show bs ≤ q.1
    omega
end mrel
/-! locals -/
def m_lg (m : Nat) (L : List Value) : Prop := ∀ (j : Nat) (v : Value), L[j]? = some v → v.category = 2 → (m_LS m).contains j = true
def m_Lr (bs b m : Nat) (ls : Array Slot) (L : List Value) : Prop := ls.size = m_maxL m ∧ lv_wf ls ∧ L.length = m_maxL m ∧ ∀ (i : Nat) (v : Value), L[i]? = some v → v ≠ m_d → ls[i]? = some (.val (m_cv bs b v))
def m_lc (bs b : Nat) (L : List Value) : List (Nat × Value) := (List.range L.length).filterMap fun i => match L[i]? with
  | some v => if v = m_d then none else some (i, m_cv bs b v)
  | none => none
theorem m_lc_mem {bs b : Nat} {L : List Value} {q : Nat × Value} : q ∈ m_lc bs b L ↔ ∃ v, L[q.1]? = some v ∧ v ≠ m_d ∧ q.2 = m_cv bs b v := by
  unfold m_lc
  rw [List.mem_filterMap]
  constructor
  · rintro ⟨i, hi, h⟩
    split at h
    · rename_i v hv
      split at h
      · cases h
      · rename_i hd
        cases h
        exact ⟨v, hv, hd, rfl⟩
    · cases h
  · rintro ⟨v, hv, hd, he⟩
    refine ⟨q.1, List.mem_range.mpr (List.getElem?_eq_some_iff.mp hv).1, ?_⟩
    rw [hv]
    simp only [if_neg hd]
    rw [← he]
theorem m_Lr.has {bs b m : Nat} {ls : Array Slot} {L : List Value} (h : m_Lr bs b m ls L) : lv_has ls (m_maxL m) (m_lc bs b L) := by
  refine ⟨h.1, h.2.1, fun q hq => ?_⟩
  obtain ⟨v, h1, h2, h3⟩ := m_lc_mem.mp hq
  rw [h3]
  exact h.2.2.2 _ v h1 h2
theorem m_Lr.get {bs b m : Nat} {ls : Array Slot} {L : List Value} (h : m_Lr bs b m ls L) {i : Nat} {v : Value} (hv : L[i]? = some v) (hd : v ≠ m_d) : ls[i]? = some (.val (m_cv bs b v)) := h.2.2.2 i v hv hd
theorem x_st_len (m i : Nat) (v : Value) (L : List Value) : (x_st m i v L).length = L.length := by
  unfold x_st
  split <;> simp
theorem x_st_get {m i : Nat} {v : Value} {L : List Value} {j : Nat} {w : Value} (h : (x_st m i v L)[j]? = some w) (hd : w ≠ m_d) : (j = i ∧ w = v) ∨ (j ≠ i ∧ L[j]? = some w ∧ ¬ (j + 1 = i ∧ (m_LS m).contains j = true)) := by
  unfold x_st at h
  split at h
  · rename_i hc
    simp only [Bool.and_eq_true, decide_eq_true_eq] at hc
    rw [List.getElem?_set] at h
    by_cases hj : i - 1 = j
    · rw [if_pos hj] at h
      split at h
      · cases h; exact absurd rfl hd
      · cases h
    · rw [if_neg hj, List.getElem?_set] at h
      by_cases hij : i = j
      · rw [if_pos hij] at h
        split at h
        · cases h; exact Or.inl ⟨hij.symm, rfl⟩
        · cases h
      · rw [if_neg hij] at h
        exact Or.inr ⟨Ne.symm hij, h, fun q => hj (by omega)⟩
  · rename_i hc
    simp only [Bool.and_eq_true, decide_eq_true_eq] at hc
    rw [List.getElem?_set] at h
    by_cases hij : i = j
    · rw [if_pos hij] at h
      split at h
      · cases h; exact Or.inl ⟨hij.symm, rfl⟩
      · cases h
    · rw [if_neg hij] at h
      refine Or.inr ⟨Ne.symm hij, h, fun q => hc ⟨?_, by omega⟩⟩
      rw [show i - 1 = j by omega]
      exact q.2
theorem m_lg.st {m i : Nat} {v : Value} {L : List Value} (h : m_lg m L) (hv : v.category = 2 → (m_LS m).contains i = true) : m_lg m (x_st m i v L) := by
  intro j w hj hw
  have hd : w ≠ m_d := fun q => by rw [q] at hw; cases hw
  rcases x_st_get hj hd with ⟨h1, h2⟩ | ⟨-, h2, -⟩
  · rw [h1]; exact hv (by rw [← h2]; exact hw)
  · exact h j w h2 hw
/-- behind a store of a value of one slot -/
theorem m_Lr.st1 {bs b m : Nat} {ls ls' : Array Slot} {L : List Value} {i : Nat} {v : Value} (h : m_Lr bs b m ls L) (hg : m_lg m L) (h' : lv_has ls' (m_maxL m) ((i, m_cv bs b v) :: (m_lc bs b L).filter (fun q => !(q.1 == i) && !(q.1 + 1 == i && q.2.category == 2)))) : m_Lr bs b m ls' (x_st m i v L) := by
  refine ⟨h'.1, h'.2.1, by rw [x_st_len]; exact h.2.2.1, fun j w hj hd => ?_⟩
  rcases x_st_get hj hd with ⟨h1, h2⟩ | ⟨h1, h2, h3⟩
  · subst h1; subst h2
    exact h'.2.2 (j, m_cv bs b w) List.mem_cons_self
  · refine h'.2.2 (j, m_cv bs b w) (List.mem_cons_of_mem _ (List.mem_filter.mpr ⟨m_lc_mem.mpr ⟨w, h2, hd, rfl⟩, ?_⟩))
    simp only [Bool.and_eq_true, Bool.not_eq_true', beq_eq_false_iff_ne, ne_eq, Bool.and_eq_false_iff, m_cv_cat]
    refine ⟨h1, ?_⟩
    by_cases hc : w.category = 2
    · exact Or.inl (fun q => h3 ⟨q, hg j w h2 hc⟩)
    · exact Or.inr hc
/-- behind a store of a long -/
theorem m_Lr.st2 {bs b m : Nat} {ls ls' : Array Slot} {L : List Value} {i : Nat} {x : Int64} (h : m_Lr bs b m ls L) (hg : m_lg m L) (h' : lv_has ls' (m_maxL m) ((i, Value.long x) :: (m_lc bs b L).filter (fun q => !(q.1 == i) && (!(q.1 == i + 1) && !(q.1 + 1 == i && q.2.category == 2))))) : m_Lr bs b m ls' (x_st m i (.long x) (L.set (i + 1) m_d)) := by
  refine ⟨h'.1, h'.2.1, by rw [x_st_len, List.length_set]; exact h.2.2.1, fun j w hj hd => ?_⟩
  rcases x_st_get hj hd with ⟨h1, h2⟩ | ⟨h1, h2, h3⟩
  · subst h1; subst h2
    exact h'.2.2 (j, Value.long x) List.mem_cons_self
  · rw [List.getElem?_set] at h2
    by_cases hj1 : i + 1 = j
    · rw [if_pos hj1] at h2
      split at h2
      · cases h2; exact absurd rfl hd
      · cases h2
    · rw [if_neg hj1] at h2
      refine h'.2.2 (j, m_cv bs b w) (List.mem_cons_of_mem _ (List.mem_filter.mpr ⟨m_lc_mem.mpr ⟨w, h2, hd, rfl⟩, ?_⟩))
      simp only [Bool.and_eq_true, Bool.not_eq_true', beq_eq_false_iff_ne, ne_eq, Bool.and_eq_false_iff, m_cv_cat]
      refine ⟨h1, fun q => hj1 q.symm, ?_⟩
      by_cases hc : w.category = 2
      · exact Or.inl (fun q => h3 ⟨q, hg j w h2 hc⟩)
      · exact Or.inr hc
theorem m_lg.set {m i : Nat} {L : List Value} (h : m_lg m L) : m_lg m (L.set i m_d) := by
  intro j w hj hw
  rw [List.getElem?_set] at hj
  by_cases hij : i = j
  · rw [if_pos hij] at hj
    split at hj
    · cases hj; cases hw
    · cases hj
  · rw [if_neg hij] at hj
    exact h j w hj hw
end
section
/-! one instruction of the machine is one of the JVM's -/
theorem p_i_some {st : List Value} {k : Int32 → List Value → Option mX} {z : mX} (h : p_i st k = some z) : ∃ x r, st = .int x :: r ∧ k x r = some z := by
  unfold p_i at h
  split at h
  · exact ⟨_, _, rfl, h⟩
  · cases h
theorem p_ii_some {st : List Value} {k : Int32 → Int32 → List Value → Option mX} {z : mX} (h : p_ii st k = some z) : ∃ x y r, st = .int y :: .int x :: r ∧ k x y r = some z := by
  unfold p_ii at h
  split at h
  · exact ⟨_, _, _, rfl, h⟩
  · cases h
theorem p_l_some {st : List Value} {k : Int64 → List Value → Option mX} {z : mX} (h : p_l st k = some z) : ∃ x r, st = .long x :: r ∧ k x r = some z := by
  unfold p_l at h
  split at h
  · exact ⟨_, _, rfl, h⟩
  · cases h
theorem p_ll_some {st : List Value} {k : Int64 → Int64 → List Value → Option mX} {z : mX} (h : p_ll st k = some z) : ∃ x y r, st = .long y :: .long x :: r ∧ k x y r = some z := by
  unfold p_ll at h
  split at h
  · exact ⟨_, _, _, rfl, h⟩
  · cases h
theorem p_li_some {st : List Value} {k : Int64 → Int32 → List Value → Option mX} {z : mX} (h : p_li st k = some z) : ∃ x y r, st = .int y :: .long x :: r ∧ k x y r = some z := by
  unfold p_li at h
  split at h
  · exact ⟨_, _, _, rfl, h⟩
  · cases h
theorem p_r_some {st : List Value} {k : Nat → List Value → Option mX} {z : mX} (h : p_r st k = some z) : ∃ x r, st = .ref x :: r ∧ k x r = some z := by
  unfold p_r at h
  split at h
  · exact ⟨_, _, rfl, h⟩
  · cases h
theorem p_vr_some {st : List Value} {k : Nat → Value → List Value → Option mX} {z : mX} (h : p_vr st k = some z) : ∃ a v r, st = v :: .ref a :: r ∧ k a v r = some z := by
  unfold p_vr at h
  split at h
  · exact ⟨_, _, _, rfl, h⟩
  · cases h
theorem p_ri_some {st : List Value} {k : Nat → Int32 → List Value → Option mX} {z : mX} (h : p_ri st k = some z) : ∃ a i r, st = .int i :: .ref a :: r ∧ k a i r = some z := by
  unfold p_ri at h
  split at h
  · exact ⟨_, _, _, rfl, h⟩
  · cases h
theorem p_rii_some {st : List Value} {k : Nat → Int32 → Int32 → List Value → Option mX} {z : mX} (h : p_rii st k = some z) : ∃ a i x r, st = .int x :: .int i :: .ref a :: r ∧ k a i x r = some z := by
  unfold p_rii at h
  split at h
  · exact ⟨_, _, _, _, rfl, h⟩
  · cases h
theorem p_rir_some {st : List Value} {k : Nat → Int32 → Nat → List Value → Option mX} {z : mX} (h : p_rir st k = some z) : ∃ a i v r, st = .ref v :: .int i :: .ref a :: r ∧ k a i v r = some z := by
  unfold p_rir at h
  split at h
  · exact ⟨_, _, _, _, rfl, h⟩
  · cases h
theorem x_to_ok {pc : Nat} {off : Int} (h : 0 ≤ (pc : Int) + off) : (pc : Int) + off = ((x_to pc off : Nat) : Int) := by
  unfold x_to
  omega
theorem x_br_some {pc : Nat} {off : Int} {L st : List Value} {μ : mM} {P : Prop} [Decidable P] {z : mX} (h : x_br pc off L st μ P = some z) : 0 ≤ (pc : Int) + off ∧ ((P ∧ z = .inl (x_to pc off, L, st, μ)) ∨ (¬ P ∧ z = .inl (pc + 3, L, st, μ))) := by
  unfold x_br at h
  split at h
  · rename_i h1
    split at h
    · rename_i h2
      cases h
      exact ⟨h1, Or.inl ⟨h2, rfl⟩⟩
    · rename_i h2
      cases h
      exact ⟨h1, Or.inr ⟨h2, rfl⟩⟩
  · cases h
theorem m_ix_in {i : Int32} {n : Nat} (h : m_ix i n = true) : vp_in i n := by
  unfold m_ix at h
  simp only [Bool.and_eq_true, decide_eq_true_eq] at h
  unfold vp_in
  rintro (q | q)
  · rw [Int32.lt_iff_toInt_lt] at q
    have h1 := Int32.le_iff_toInt_le.mp h.1
    omega
  · omega
theorem m_fit_cv {bs b : Nat} {ty : FieldType} {v : Value} (h : fits ty v = true) (hn : narrow ty v = v) : fits ty (m_cv bs b v) = true ∧ narrow ty (m_cv bs b v) = m_cv bs b v := by
  cases v with
  | ref a => cases ty <;> first | exact ⟨rfl, rfl⟩ | exact absurd h (by simp [fits])
  | retAddr k => cases ty <;> exact absurd h (by simp [fits])
  | int x => exact ⟨h, hn⟩
  | long x => exact ⟨h, hn⟩
  | float x => exact ⟨h, hn⟩
  | double x => exact ⟨h, hn⟩
  | null => exact ⟨h, hn⟩
def m_tys (dA dR : Nat → ClassId) : List (ClassId × FieldType) := [(dA 0, .int), (dA 1, .boolean), (dA 2, .byte), (dR 1, .object RX1), (dR 3, .object RX3), (dR 6, .object RX7)]
def m_Kn (dC : Nat → ClassId) (dI : Nat → Nat → Nat) (dA dR : Nat → ClassId) (U : State) : Prop := va_K (dC, dI) vwCl (m_tys dA dR) U ∧ ∀ w ∈ m_NW, va_Nw w U
def m_Cx (dC : Nat → ClassId) (dI : Nat → Nat → Nat) (dA dR : Nat → ClassId) (bs b LL : Nat) (xs : Nat → Int32) (p : Program) (R : Room) (s : State) (mid : MethodId) (args : Array Value) (meth : Method) (c : Code) (m : Nat) : Prop :=
  p.tables.exec = Jvm.exec ∧ c.code = m_code m ∧ c.maxLocals = m_maxL m ∧ s.vm.findClass (m_oN (m_own m)) = some mid.cls ∧ (∀ w ∈ m_TB, w.before args s = true) ∧ m_Kn dC dI dA dR s ∧ va_X b LL xs s s.heap ∧ meth.locks = false ∧ ((m_nam m).name = "<init>" → meth.name = "<init>") ∧ meth.sig.returnType = m_ret m ∧ m_fr m ≤ R.frames ∧ m_lo m ≤ R.locals ∧ b < bs ∧ bs ≤ s.heap.size ∧ m_oN (m_own m) = (m_nam m).cls
def m_In (bs LL : Nat) (xs : Nat → Int32) (s : State) (m : Nat) (L : List Value) (μ : mM) (cells : Nat) : Prop := m_wf μ ∧ μ.2.1 = (LL, xs) ∧ s.heap.size + cells = bs + mN μ ∧ m_lg m L
def m_J (l : Launch) (dC : Nat → ClassId) (dI : Nat → Nat → Nat) (dA dR : Nat → ClassId) (bs b LL : Nat) (xs : Nat → Int32) (p : Program) (e : Env) (R : Room) (s : State) (mid : MethodId) (args : Array Value) (below : List Frame) (meth : Method) (c : Code) (Q : State → Prop) (m pc : Nat) (L st : List Value) (μ : mM) (cells slots : Nat) : Prop :=
  m_In bs LL xs s m L μ cells → ∀ (H : Heap) (locs : List Loc) (ls : Array Slot), va_P (dC, dI) vwCl (m_W dA dR bs b μ) H → va_S (fun q => bs ≤ q) s.heap H locs → m_Lr bs b m ls L → W p l e R s mid args below meth c H locs cells slots Q (F0 mid pc ls (st.map (m_cv bs b)))
/-- a cell that was made lies at the heap's end -/
theorem m_fresh {p : Program} {l : Launch} {e : Env} {R : Room} {s T : State} {mid : MethodId} {args : Array Value} {below : List Frame} {meth : Method} {c : Code} {locs : List Loc} {cells slots : Nat} {D : va_G} {cl : List vw_C} {dA dR : Nat → ClassId} {bs b q : Nat} {μ : mM} {ee : va_E} {H1 : Heap} (hP1 : va_P D cl (m_W dA dR bs b μ ++ [(q, ee)]) H1) (hD1 : va_D (fun q => bs ≤ q) (m_W dA dR bs b μ ++ [(q, ee)])) (hT : T.heap = H1) (X : Stand p l e R s mid args below meth c T locs (cells + 1) slots) (hc : s.heap.size + cells = bs + mN μ) : q = bs + mN μ := by
  have hlen : (m_W dA dR bs b μ).length = mN μ := by unfold m_W; simp
  have hl : (m_W dA dR bs b μ ++ [(q, ee)])[mN μ]? = some (q, ee) := by
    rw [List.getElem?_append_right (by omega), hlen, Nat.sub_self]; rfl
  have h1 : q < H1.size := (hP1 _ _ hl).lt
  have h2 := X.heapSize
  rw [hT] at h2
  have h3 : bs ≤ q := hD1.2 _ _ hl
  by_cases hq : q = bs + mN μ
  · exact hq
  · have hi : q - bs < mN μ := by omega
    have h4 : (m_W dA dR bs b μ ++ [(q, ee)])[q - bs]? = some (bs + (q - bs), m_cE dA dR bs b ((mF μ (q - bs)).getD (m_ob 0 []))) := by
      rw [List.getElem?_append_left (by omega)]
      unfold m_W
      rw [List.getElem?_map, List.getElem?_range hi]
      rfl
    have h5 := hD1.1 _ _ _ _ h4 hl (by show bs + (q - bs) = q; omega)
    omega
theorem m_Wlen {dA dR : Nat → ClassId} {bs b : Nat} {μ : mM} : (m_W dA dR bs b μ).length = mN μ := by unfold m_W; simp
/-- the heap's size, as far as the machine tells it -/
theorem m_hsize {p : Program} {l : Launch} {e : Env} {R : Room} {s T : State} {mid : MethodId} {args : Array Value} {below : List Frame} {meth : Method} {c : Code} {locs : List Loc} {cells slots : Nat} {D : va_G} {cl : List vw_C} {dA dR : Nat → ClassId} {bs b : Nat} {μ : mM} {H : Heap} (hP : va_P D cl (m_W dA dR bs b μ) H) (hS : va_S (fun q => bs ≤ q) s.heap H locs) (hT : T.heap = H) (X : Stand p l e R s mid args below meth c T locs cells slots) (hc : s.heap.size + cells = bs + mN μ) (hb : bs ≤ s.heap.size) : H.size = bs + mN μ := by
  have h2 := X.heapSize
  rw [hT] at h2
  have h0 := hS.1
  by_cases hn : mN μ = 0
  · omega
  · have h4 : (m_W dA dR bs b μ)[mN μ - 1]? = some (bs + (mN μ - 1), m_cE dA dR bs b ((mF μ (mN μ - 1)).getD (m_ob 0 []))) := by
      unfold m_W
      rw [List.getElem?_map, List.getElem?_range (by omega)]
      rfl
    have h5 : bs + (mN μ - 1) < H.size := (hP _ _ h4).lt
    omega
section mstep
variable {l : Launch} {dC : Nat → ClassId} {dI : Nat → Nat → Nat} {dA dR : Nat → ClassId} {bs b LL : Nat} {xs : Nat → Int32} {p : Program} {e : Env} {R : Room} {s : State} {mid : MethodId} {args : Array Value} {below : List Frame} {meth : Method} {c : Code} {Q : State → Prop} {m pc : Nat} {L st : List Value} {μ : mM} {cells slots : Nat}
theorem m_lkF_ok {o i c k : Nat} (h : m_lkF o i = some (c, k)) : Cond.fieldLink (m_oN o) i (m_T c k).1 (m_T c k).2.1 (m_T c k).2.2.1 ∈ m_TB ∧ c < 10 ∧ k < m_nf c := by
  unfold m_lkF at h
  cases hf : m_LF.find? (fun q => q.1 == o && q.2.1 == i) with
  | none => rw [hf] at h; cases h
  | some q =>
    rw [hf] at h
    obtain ⟨h1, h2, h3⟩ := m_find hf
    have h4 := List.all_eq_true.mp m_okF_all q h1
    unfold m_okF at h4
    simp only [Bool.and_eq_true, decide_eq_true_eq] at h4
    have h5 : q.2.2.1 = (c, k) := Option.some.inj h
    rw [h5, h2, h3] at h4
    exact ⟨m_at_in h4.1.1, h4.1.2, h4.2⟩
theorem m_lkI_ok {o i : Nat} {v : Int32} (h : m_lkI o i = some v) : Cond.constant (m_oN o) i v ∈ m_TB := by
  unfold m_lkI at h
  cases hf : m_LI.find? (fun q => q.1 == o && q.2.1 == i) with
  | none => rw [hf] at h; cases h
  | some q =>
    rw [hf] at h
    obtain ⟨h1, h2, h3⟩ := m_find hf
    have h4 := List.all_eq_true.mp m_okI_all q h1
    unfold m_okI at h4
    have h5 : q.2.2.1 = v := Option.some.inj h
    rw [h5, h2, h3] at h4
    exact m_at_in h4
theorem m_lkJ_ok {o i : Nat} {v : Int64} (h : m_lkJ o i = some v) : Cond.constantLong (m_oN o) i v ∈ m_TB := by
  unfold m_lkJ at h
  cases hf : m_LJ.find? (fun q => q.1 == o && q.2.1 == i) with
  | none => rw [hf] at h; cases h
  | some q =>
    rw [hf] at h
    obtain ⟨h1, h2, h3⟩ := m_find hf
    have h4 := List.all_eq_true.mp m_okJ_all q h1
    unfold m_okJ at h4
    have h5 : q.2.2.1 = v := Option.some.inj h
    rw [h5, h2, h3] at h4
    exact m_at_in h4
theorem m_lkC_ok {o i c : Nat} (h : m_lkC o i = some c) : Cond.classLink (m_oN o) i (m_Rn c) ∈ m_TB ∧ c < 10 := by
  unfold m_lkC at h
  cases hf : m_LC.find? (fun q => q.1 == o && q.2.1 == i) with
  | none => rw [hf] at h; cases h
  | some q =>
    rw [hf] at h
    obtain ⟨h1, h2, h3⟩ := m_find hf
    have h4 := List.all_eq_true.mp m_okC_all q h1
    unfold m_okC at h4
    simp only [Bool.and_eq_true, decide_eq_true_eq] at h4
    have h5 : q.2.2.1 = c := Option.some.inj h
    rw [h5, h2, h3] at h4
    exact ⟨m_at_in h4.1, h4.2⟩
/-- a step that leaves locals and cells as they are -/
theorem j_same {pc' : Nat} {st' : List Value} (h : ∀ (H : Heap) (locs : List Loc) (ls : Array Slot), m_Lr bs b m ls L → W p l e R s mid args below meth c H locs cells slots Q (F0 mid pc' ls (st'.map (m_cv bs b))) → W p l e R s mid args below meth c H locs cells slots Q (F0 mid pc ls (st.map (m_cv bs b)))) (k : m_J l dC dI dA dR bs b LL xs p e R s mid args below meth c Q m pc' L st' μ cells slots) : m_J l dC dI dA dR bs b LL xs p e R s mid args below meth c Q m pc L st μ cells slots :=
  fun I H locs ls hP hS hL => h H locs ls hL (k I H locs ls hP hS hL)
/-- a step that stores into a local -/
theorem j_loc {pc' : Nat} {L' st' : List Value} (hg : m_lg m L → m_lg m L') (h : ∀ (H : Heap) (locs : List Loc) (ls : Array Slot), m_lg m L → m_Lr bs b m ls L → (∀ ls', m_Lr bs b m ls' L' → W p l e R s mid args below meth c H locs cells slots Q (F0 mid pc' ls' (st'.map (m_cv bs b)))) → W p l e R s mid args below meth c H locs cells slots Q (F0 mid pc ls (st.map (m_cv bs b)))) (k : m_J l dC dI dA dR bs b LL xs p e R s mid args below meth c Q m pc' L' st' μ cells slots) : m_J l dC dI dA dR bs b LL xs p e R s mid args below meth c Q m pc L st μ cells slots :=
  fun I H locs ls hP hS hL => h H locs ls I.2.2.2 hL (fun ls' hL' => k ⟨I.1, I.2.1, I.2.2.1, hg I.2.2.2⟩ H locs ls' hP hS hL')
/-- a step that changes one cell -/
theorem j_set {pc' a : Nat} {ee e' : mE} {st' : List Value} (ha : mF μ a = some ee) (ho : m_oke e') (h : ∀ (H : Heap) (locs : List Loc) (ls : Array Slot), (m_W dA dR bs b μ)[a]? = some (bs + a, m_cE dA dR bs b ee) → va_P (dC, dI) vwCl (m_W dA dR bs b μ) H → va_D (fun q => bs ≤ q) (m_W dA dR bs b μ) → va_S (fun q => bs ≤ q) s.heap H locs → (∀ (H1 : Heap) (locs1 : List Loc), va_P (dC, dI) vwCl ((m_W dA dR bs b μ).set a (bs + a, m_cE dA dR bs b e')) H1 → va_S (fun q => bs ≤ q) s.heap H1 locs1 → W p l e R s mid args below meth c H1 locs1 cells slots Q (F0 mid pc' ls (st'.map (m_cv bs b)))) → W p l e R s mid args below meth c H locs cells slots Q (F0 mid pc ls (st.map (m_cv bs b)))) (k : m_J l dC dI dA dR bs b LL xs p e R s mid args below meth c Q m pc' L st' (m_set μ a e') cells slots) : m_J l dC dI dA dR bs b LL xs p e R s mid args below meth c Q m pc L st μ cells slots := by
  intro I H locs ls hP hS hL
  have hlt := I.1.lt ha
  refine h H locs ls (m_W_get I.1 ha) hP (m_W_D μ) hS (fun H1 locs1 hP1 hS1 => ?_)
  rw [m_W_set hlt] at hP1
  exact k ⟨I.1.set hlt ho, I.2.1, I.2.2.1, I.2.2.2⟩ H1 locs1 ls hP1 hS1 hL
/-- a step that makes a cell -/
theorem j_new {pc' n : Nat} {e' : mE} {st' : List Value} (ho : m_oke e') (h : ∀ (H : Heap) (locs : List Loc) (ls : Array Slot), va_P (dC, dI) vwCl (m_W dA dR bs b μ) H → va_D (fun q => bs ≤ q) (m_W dA dR bs b μ) → va_S (fun q => bs ≤ q) s.heap H locs → (∀ (q : Nat) (H1 : Heap), va_P (dC, dI) vwCl (m_W dA dR bs b μ ++ [(q, m_cE dA dR bs b e')]) H1 → va_D (fun q => bs ≤ q) (m_W dA dR bs b μ ++ [(q, m_cE dA dR bs b e')]) → va_S (fun q => bs ≤ q) s.heap H1 locs → W p l e R s mid args below meth c H1 locs (cells + 1) (slots + n) Q (F0 mid pc' ls (.ref q :: st'.map (m_cv bs b)))) → W p l e R s mid args below meth c H locs cells slots Q (F0 mid pc ls (st.map (m_cv bs b)))) (k : m_J l dC dI dA dR bs b LL xs p e R s mid args below meth c Q m pc' L (.ref (mN μ) :: st') (m_new μ n e') (cells + 1) (slots + n)) : m_J l dC dI dA dR bs b LL xs p e R s mid args below meth c Q m pc L st μ cells slots := by
  intro I H locs ls hP hS hL
  refine h H locs ls hP (m_W_D μ) hS (fun q H1 hP1 hD1 hS1 => ?_)
  intro T hT X
  have hq := m_fresh hP1 hD1 hT X I.2.2.1
  subst hq
  rw [← m_W_new μ n] at hP1
  exact k ⟨I.1.new ho, I.2.1, by rw [m_new_N]; have := I.2.2.1; omega, I.2.2.2⟩ H1 locs ls hP1 hS1 hL T hT X
end mstep
end
section
section mst
variable {l : Launch} {dC : Nat → ClassId} {dI : Nat → Nat → Nat} {dA dR : Nat → ClassId} {bs b LL : Nat} {xs : Nat → Int32} {p : Program} {e : Env} {R : Room} {s : State} {mid : MethodId} {args : Array Value} {below : List Frame} {meth : Method} {c : Code} {Q : State → Prop} {m pc : Nat} {L st : List Value} {μ : mM} {cells slots : Nat}
theorem t_iload {pc' i : Nat} {z : mX} (hx : x_ild pc' i L st μ = some z) : ∃ x, L[i]? = some (.int x) ∧ z = .inl (pc', L, .int x :: st, μ) := by
  unfold x_ild at hx
  split at hx
  · rename_i x h; cases hx; exact ⟨x, h, rfl⟩
  · cases hx
theorem t_lload {pc' i : Nat} {z : mX} (hx : x_lld pc' i L st μ = some z) : ∃ x, L[i]? = some (.long x) ∧ z = .inl (pc', L, .long x :: st, μ) := by
  unfold x_lld at hx
  split at hx
  · rename_i x h; cases hx; exact ⟨x, h, rfl⟩
  · cases hx
theorem t_aload {pc' i : Nat} {z : mX} (hx : x_ald pc' i L st μ = some z) : ∃ v, L[i]? = some v ∧ ((∃ a, v = .ref a) ∨ v = .null ∨ v = .retAddr 0) ∧ z = .inl (pc', L, v :: st, μ) := by
  unfold x_ald at hx
  split at hx
  · rename_i x h; cases hx; exact ⟨_, h, Or.inl ⟨_, rfl⟩, rfl⟩
  · rename_i h; cases hx; exact ⟨_, h, Or.inr (Or.inl rfl), rfl⟩
  · rename_i h; cases hx; exact ⟨_, h, Or.inr (Or.inr rfl), rfl⟩
  · cases hx
theorem t_istore {pc' i : Nat} {z : mX} (hx : x_ist m pc' i L st μ = some z) : ∃ x r, st = .int x :: r ∧ i < L.length ∧ z = .inl (pc', x_st m i (.int x) L, r, μ) := by
  obtain ⟨x, r, rfl, h⟩ := p_i_some hx
  split at h
  · rename_i hi; cases h; exact ⟨x, r, rfl, hi, rfl⟩
  · cases h
theorem t_lstore {pc' i : Nat} {z : mX} (hx : x_lst m pc' i L st μ = some z) : ∃ x r, st = .long x :: r ∧ i + 1 < L.length ∧ (m_LS m).contains i = true ∧ z = .inl (pc', x_st m i (.long x) (L.set (i + 1) m_d), r, μ) := by
  obtain ⟨x, r, rfl, h⟩ := p_l_some hx
  split at h
  · rename_i hi; cases h; exact ⟨x, r, rfl, hi.1, hi.2, rfl⟩
  · cases h
theorem t_astore {pc' i : Nat} {z : mX} (hx : x_ast m pc' i L st μ = some z) : ∃ v r, st = v :: r ∧ ((∃ a, v = .ref a) ∨ v = .null) ∧ i < L.length ∧ z = .inl (pc', x_st m i v L, r, μ) := by
  unfold x_ast at hx
  split at hx
  · split at hx
    · rename_i hi; cases hx; exact ⟨_, _, rfl, Or.inl ⟨_, rfl⟩, hi, rfl⟩
    · cases hx
  · split at hx
    · rename_i hi; cases hx; exact ⟨_, _, rfl, Or.inr rfl, hi, rfl⟩
    · cases hx
  · cases hx
theorem m_gf_some {a ci k : Nat} {v : Value} (h : m_gf μ a ci k = some v) : ∃ fs, mF μ a = some (m_ob ci fs) ∧ fs[k]? = some v := by
  unfold m_gf at h
  split at h
  · rename_i q hq
    split at h
    · rename_i hc
      obtain ⟨q1, q2⟩ := q
      cases hc
      exact ⟨q2, hq, h⟩
    · cases h
  · cases h
theorem m_pf_some {a ci k : Nat} {ty : FieldType} {v : Value} {μ1 : mM} (h : m_pf μ a ci k ty v = some μ1) : ∃ fs, mF μ a = some (m_ob ci fs) ∧ k < fs.length ∧ fits ty v = true ∧ narrow ty v = v ∧ μ1 = m_set μ a (m_ob ci (fs.set k v)) := by
  unfold m_pf at h
  split at h
  · rename_i q hq
    split at h
    · rename_i hc
      obtain ⟨q1, q2⟩ := q
      obtain ⟨h1, h2, h3, h4⟩ := hc
      cases h1
      cases h
      exact ⟨q2, hq, h2, h3, h4, rfl⟩
    · cases h
  · cases h
theorem m_ga_some {a : Nat} {i x : Int32} (h : m_ga μ a i = some x) : ∃ n f, mF μ a = some (m_ia 0 n f) ∧ m_ix i n = true ∧ x = f i.toNatClampNeg := by
  unfold m_ga at h
  split at h
  · rename_i q hq
    split at h
    · rename_i hc
      obtain ⟨q1, q2, q3⟩ := q
      obtain ⟨h1, h2⟩ := hc
      cases h1
      cases h
      exact ⟨q2, q3, hq, h2, rfl⟩
    · cases h
  · cases h
theorem m_gb_some {a : Nat} {i x : Int32} (h : m_gb μ a i = some x) : ∃ k n f, mF μ a = some (m_ia k n f) ∧ (k = 1 ∨ k = 2) ∧ m_ix i n = true ∧ x = f i.toNatClampNeg := by
  unfold m_gb at h
  split at h
  · rename_i q hq
    split at h
    · rename_i hc
      obtain ⟨q1, q2, q3⟩ := q
      cases h
      exact ⟨q1, q2, q3, hq, hc.1, hc.2, rfl⟩
    · cases h
  · cases h
theorem m_pa_some {a : Nat} {i x : Int32} {μ1 : mM} (h : m_pa μ a i x = some μ1) : ∃ n f, mF μ a = some (m_ia 0 n f) ∧ m_ix i n = true ∧ μ1 = m_set μ a (m_ia 0 n (upd f i.toNatClampNeg x)) := by
  unfold m_pa at h
  split at h
  · rename_i q hq
    split at h
    · rename_i hc
      obtain ⟨q1, q2, q3⟩ := q
      obtain ⟨h1, h2⟩ := hc
      cases h1
      cases h
      exact ⟨q2, q3, hq, h2, rfl⟩
    · cases h
  · cases h
theorem m_pb_some {a : Nat} {i x : Int32} {μ1 : mM} (h : m_pb μ a i x = some μ1) : ∃ k n f, mF μ a = some (m_ia k n f) ∧ (k = 1 ∨ k = 2) ∧ m_ix i n = true ∧ μ1 = m_set μ a (m_ia k n (upd f i.toNatClampNeg (vp_nar (if k = 1 then .boolean else .byte) x))) := by
  unfold m_pb at h
  split at h
  · rename_i q hq
    split at h
    · rename_i hc
      obtain ⟨q1, q2, q3⟩ := q
      cases h
      exact ⟨q1, q2, q3, hq, hc.1, hc.2, rfl⟩
    · cases h
  · cases h
theorem m_gr_some {a : Nat} {i : Int32} {o : Option Nat} (h : m_gr μ a i = some o) : ∃ ci n f, mF μ a = some (m_ra ci n f) ∧ m_ix i n = true ∧ o = f i.toNatClampNeg := by
  unfold m_gr at h
  split at h
  · rename_i q hq
    split at h
    · rename_i hc
      obtain ⟨q1, q2, q3⟩ := q
      cases h
      exact ⟨q1, q2, q3, hq, hc, rfl⟩
    · cases h
  · cases h
theorem m_pr_some {a v : Nat} {i : Int32} {μ1 : mM} (h : m_pr μ a i v = some μ1) : ∃ ci n f fs, mF μ a = some (m_ra ci n f) ∧ mF μ v = some (m_ob ci fs) ∧ m_ix i n = true ∧ μ1 = m_set μ a (m_ra ci n (va_up f i.toNatClampNeg (some v))) := by
  unfold m_pr at h
  split at h
  · rename_i q o hq ho
    split at h
    · rename_i hc
      obtain ⟨q1, q2, q3⟩ := q
      obtain ⟨o1, o2⟩ := o
      obtain ⟨h1, h2⟩ := hc
      cases h1
      cases h
      exact ⟨_, q2, q3, o2, hq, ho, h2, rfl⟩
    · cases h
  · cases h
theorem m_ln_some {a n : Nat} (h : m_ln μ a = some n) : (∃ k f, mF μ a = some (m_ia k n f)) ∨ ∃ ci f, mF μ a = some (m_ra ci n f) := by
  unfold m_ln at h
  split at h
  · rename_i q hq
    obtain ⟨q1, q2, q3⟩ := q
    cases h
    exact Or.inl ⟨_, _, hq⟩
  · rename_i q hq
    obtain ⟨q1, q2, q3⟩ := q
    cases h
    exact Or.inr ⟨_, _, hq⟩
  · cases h
theorem m_tyk {k : Nat} (h : k ≤ 2) : (m_tys dA dR)[k]? = some (dA k, if k = 0 then .int else if k = 1 then .boolean else .byte) := by
  rcases (show k = 0 ∨ k = 1 ∨ k = 2 by omega) with rfl | rfl | rfl <;> rfl
theorem m_tyr {ci : Nat} (h : ci = 1 ∨ ci = 3 ∨ ci = 6) : ∃ t0 : Nat, (m_tys dA dR)[t0]? = some (dR ci, FieldType.object (m_Rn ci)) := by
  rcases h with rfl | rfl | rfl
  · exact ⟨3, rfl⟩
  · exact ⟨4, rfl⟩
  · exact ⟨5, rfl⟩
theorem m_rlen {r : List Value} (h : r.length ≤ 4) : ((r.map (m_cv bs b)).map fun v => v.category).sum ≤ 8 := by
  have key : ∀ (r : List Value), ((r.map (m_cv bs b)).map fun v => v.category).sum ≤ 2 * r.length := by
    intro r
    induction r with
    | nil => simp
    | cons v r ih =>
      simp only [List.map_cons, List.sum_cons, List.length_cons]
      rcases lv_cat (m_cv bs b v) with q | q <;> omega
  have := key r
  omega
theorem m_nok {n : Int32} (h : x_nok n = true) : ¬ n < 0 ∧ n.toNatClampNeg ≤ 100000 := by
  unfold x_nok at h
  simp only [Bool.and_eq_true, decide_eq_true_eq] at h
  have h1 := Int32.le_iff_toInt_le.mp h.1
  have h2 := Int32.le_iff_toInt_le.mp h.2
  refine ⟨fun q => ?_, ?_⟩
  · have := Int32.lt_iff_toInt_lt.mp q
    omega
  · have e : n.toNatClampNeg = n.toInt.toNat := rfl
    have : (100000 : Int32).toInt = 100000 := by decide
    omega
end mst
end
section
section mst2
variable {l : Launch} {dC : Nat → ClassId} {dI : Nat → Nat → Nat} {dA dR : Nat → ClassId} {bs b LL : Nat} {xs : Nat → Int32} {p : Program} {e : Env} {R : Room} {s : State} {mid : MethodId} {args : Array Value} {below : List Frame} {meth : Method} {c : Code} {Q : State → Prop} {m pc : Nat} {L st : List Value} {μ : mM} {cells slots : Nat}
theorem j_ist (hx : p.tables.exec = Jvm.exec) (hb : c.code = m_code m) {i len : Nat} {v : Value} {r : List Value} (hv : v.category = 1) (hi : i < m_maxL m) (row : ∀ (H : Heap) (locs : List Loc) (ls : Array Slot), lv_has ls (m_maxL m) (m_lc bs b L) → (∀ ls', lv_has ls' (m_maxL m) ((i, m_cv bs b v) :: (m_lc bs b L).filter (fun q => !(q.1 == i) && !(q.1 + 1 == i && q.2.category == 2))) → W p l e R s mid args below meth c H locs cells slots Q (F0 mid (pc + len) ls' (r.map (m_cv bs b)))) → W p l e R s mid args below meth c H locs cells slots Q (F0 mid pc ls (m_cv bs b v :: r.map (m_cv bs b)))) (k : m_J l dC dI dA dR bs b LL xs p e R s mid args below meth c Q m (pc + len) (x_st m i v L) r μ cells slots) : m_J l dC dI dA dR bs b LL xs p e R s mid args below meth c Q m pc L (v :: r) μ cells slots :=
  j_loc (fun h => h.st (fun q => by rw [hv] at q; cases q)) (fun H locs ls hg hL kk => row H locs ls hL.has (fun ls' hl' => kk ls' (hL.st1 hg hl'))) k
set_option maxHeartbeats 4000000 in
set_option maxRecDepth 100000 in
theorem m_st1 {len : Nat} {i : Instr} {z : Nat × List Value × List Value × mM} (C : m_Cx dC dI dA dR bs b LL xs p R s mid args meth c m) (hlen : L.length = m_maxL m) (hd : decode (m_code m) pc = .ok (i, len)) (hx0 : m_ex m pc len L st μ i = some (.inl z)) (hcl : cells + mN z.2.2.2 ≤ R.cells + mN μ) (hsl : slots + mS z.2.2.2 ≤ R.slots + mS μ) (hI : m_In bs LL xs s m L μ cells)
    (k : ∀ cells' slots', cells' + mN μ = cells + mN z.2.2.2 → slots' + mS μ = slots + mS z.2.2.2 → m_J l dC dI dA dR bs b LL xs p e R s mid args below meth c Q m z.1 z.2.1 z.2.2.1 z.2.2.2 cells' slots') : m_J l dC dI dA dR bs b LL xs p e R s mid args below meth c Q m pc L st μ cells slots := by
  obtain ⟨hx, hb, hml, hown, hts, ⟨hK, hN⟩, hX, hlk, hnm, hrt, hfr, hlo, hbb, hbs, hon⟩ := C
  unfold m_ex at hx0
  split at hx0
  · rename_i hln
    cases i with
    | iconst n =>
      simp only [x_lok, x_ln, beq_iff_eq] at hln; subst hln
      cases hx0
      exact j_same (fun H locs ls hL w => lv_iconst hx hb hd rfl w) (k _ _ rfl rfl)
    | bipush n =>
      simp only [x_lok, x_ln, beq_iff_eq] at hln; subst hln
      cases hx0
      exact j_same (fun H locs ls hL w => lv_bipush hx hb hd rfl w) (k _ _ rfl rfl)
    | sipush n =>
      simp only [x_lok, x_ln, beq_iff_eq] at hln; subst hln
      cases hx0
      exact j_same (fun H locs ls hL w => lv_sipush hx hb hd rfl w) (k _ _ rfl rfl)
    | lconst n =>
      simp only [x_lok, x_ln, beq_iff_eq] at hln; subst hln
      cases hx0
      exact j_same (fun H locs ls hL w => lv_lconst hx hb hd rfl w) (k _ _ rfl rfl)
    | ldc_w n =>
      simp only [x_lok, x_ln, beq_iff_eq] at hln; subst hln
      simp only [m_e0, Option.map_eq_some_iff] at hx0
      obtain ⟨v, hv, hz⟩ := hx0
      cases hz
      exact j_same (fun H locs ls hL w => lv_ldcw hx hb hown (hts _ (m_lkI_ok hv)) hd w) (k _ _ rfl rfl)
    | ldc2_w n =>
      simp only [x_lok, x_ln, beq_iff_eq] at hln; subst hln
      simp only [m_e0, Option.map_eq_some_iff] at hx0
      obtain ⟨v, hv, hz⟩ := hx0
      cases hz
      exact j_same (fun H locs ls hL w => lv_ldc2 hx hb hown (hts _ (m_lkJ_ok hv)) hd w) (k _ _ rfl rfl)
    | aconst_null =>
      simp only [x_lok, x_ln, beq_iff_eq] at hln; subst hln
      cases hx0
      exact j_same (fun H locs ls hL w => lv_null hx hb hd w) (k _ _ rfl rfl)
    | iload i =>
      simp only [x_lok, x_ln, beq_iff_eq] at hln; subst hln
      obtain ⟨x, h1, h2⟩ := t_iload hx0
      cases h2
      exact j_same (fun H locs ls hL w => lv_iload hx hb hd (hL.get h1 (fun q => by cases q)) w) (k _ _ rfl rfl)
    | iload_n i =>
      simp only [x_lok, x_ln, beq_iff_eq] at hln; subst hln
      obtain ⟨x, h1, h2⟩ := t_iload hx0
      cases h2
      exact j_same (fun H locs ls hL w => lv_iload_n hx hb hd rfl (hL.get h1 (fun q => by cases q)) w) (k _ _ rfl rfl)
    | lload i =>
      simp only [x_lok, x_ln, beq_iff_eq] at hln; subst hln
      obtain ⟨x, h1, h2⟩ := t_lload hx0
      cases h2
      exact j_same (fun H locs ls hL w => lv_lload hx hb hd (hL.get h1 (fun q => by cases q)) w) (k _ _ rfl rfl)
    | lload_n i =>
      simp only [x_lok, x_ln, beq_iff_eq] at hln; subst hln
      obtain ⟨x, h1, h2⟩ := t_lload hx0
      cases h2
      exact j_same (fun H locs ls hL w => lv_lload_n hx hb hd rfl (hL.get h1 (fun q => by cases q)) w) (k _ _ rfl rfl)
    | aload i =>
      simp only [x_lok, x_ln, beq_iff_eq] at hln; subst hln
      obtain ⟨v, h1, h3, h2⟩ := t_aload hx0
      cases h2
      rcases h3 with ⟨a, rfl⟩ | rfl | rfl
      · exact j_same (fun H locs ls hL w => lv_aload hx hb hd (hL.get h1 (fun q => by cases q)) w) (k _ _ rfl rfl)
      · exact j_same (fun H locs ls hL w => lv_aloadN hx hb hd (hL.get h1 (fun q => by cases q)) w) (k _ _ rfl rfl)
      · exact j_same (fun H locs ls hL w => lv_aload hx hb hd (hL.get h1 (fun q => by cases q)) w) (k _ _ rfl rfl)
    | aload_n i =>
      simp only [x_lok, x_ln, beq_iff_eq] at hln; subst hln
      obtain ⟨v, h1, h3, h2⟩ := t_aload hx0
      cases h2
      rcases h3 with ⟨a, rfl⟩ | rfl | rfl
      · exact j_same (fun H locs ls hL w => lv_aload_n hx hb hd rfl (hL.get h1 (fun q => by cases q)) w) (k _ _ rfl rfl)
      · exact j_same (fun H locs ls hL w => lv_aload_nN hx hb hd rfl (hL.get h1 (fun q => by cases q)) w) (k _ _ rfl rfl)
      · exact j_same (fun H locs ls hL w => lv_aload_n hx hb hd rfl (hL.get h1 (fun q => by cases q)) w) (k _ _ rfl rfl)
    | istore i =>
      simp only [x_lok, x_ln, beq_iff_eq] at hln; subst hln
      obtain ⟨x, r, rfl, h1, h2⟩ := t_istore hx0
      cases h2
      exact j_ist hx hb rfl (hlen ▸ h1) (fun H locs ls hh kk => lv_istore hx hb hd hh (hlen ▸ h1) rfl kk) (k _ _ rfl rfl)
    | istore_n i =>
      simp only [x_lok, x_ln, beq_iff_eq] at hln; subst hln
      obtain ⟨x, r, rfl, h1, h2⟩ := t_istore hx0
      cases h2
      exact j_ist hx hb rfl (hlen ▸ h1) (fun H locs ls hh kk => lv_istore_n hx hb hd rfl hh (hlen ▸ h1) rfl kk) (k _ _ rfl rfl)
    | astore i =>
      simp only [x_lok, x_ln, beq_iff_eq] at hln; subst hln
      obtain ⟨v, r, rfl, h3, h1, h2⟩ := t_astore hx0
      cases h2
      rcases h3 with ⟨a, rfl⟩ | rfl
      · exact j_ist hx hb rfl (hlen ▸ h1) (fun H locs ls hh kk => lv_astore hx hb hd hh (hlen ▸ h1) rfl kk) (k _ _ rfl rfl)
      · exact j_ist hx hb rfl (hlen ▸ h1) (fun H locs ls hh kk => lv_astoreN hx hb hd hh (hlen ▸ h1) rfl kk) (k _ _ rfl rfl)
    | astore_n i =>
      simp only [x_lok, x_ln, beq_iff_eq] at hln; subst hln
      obtain ⟨v, r, rfl, h3, h1, h2⟩ := t_astore hx0
      cases h2
      rcases h3 with ⟨a, rfl⟩ | rfl
      · exact j_ist hx hb rfl (hlen ▸ h1) (fun H locs ls hh kk => lv_astore_n hx hb hd rfl hh (hlen ▸ h1) rfl kk) (k _ _ rfl rfl)
      · exact j_ist hx hb rfl (hlen ▸ h1) (fun H locs ls hh kk => lv_astore_nN hx hb hd rfl hh (hlen ▸ h1) rfl kk) (k _ _ rfl rfl)
    | lstore i =>
      simp only [x_lok, x_ln, beq_iff_eq] at hln; subst hln
      obtain ⟨x, r, rfl, h1, h3, h2⟩ := t_lstore hx0
      cases h2
      exact j_loc (fun h => h.set.st (fun _ => h3)) (fun H locs ls hg hL kk => lv_lstore hx hb hd hL.has (hlen ▸ h1) rfl (fun ls' hl' => kk ls' (hL.st2 hg hl'))) (k _ _ rfl rfl)
    | lstore_n i =>
      simp only [x_lok, x_ln, beq_iff_eq] at hln; subst hln
      obtain ⟨x, r, rfl, h1, h3, h2⟩ := t_lstore hx0
      cases h2
      exact j_loc (fun h => h.set.st (fun _ => h3)) (fun H locs ls hg hL kk => lv_lstore_n hx hb hd rfl hL.has (hlen ▸ h1) rfl (fun ls' hl' => kk ls' (hL.st2 hg hl'))) (k _ _ rfl rfl)
    | iinc i n =>
      simp only [x_lok, x_ln, beq_iff_eq] at hln; subst hln
      simp only [m_e0] at hx0
      split at hx0
      · rename_i x h1
        cases hx0
        have hi : i < m_maxL m := hlen ▸ (List.getElem?_eq_some_iff.mp h1).1
        refine j_loc (fun h => h.st (fun q => by cases q)) (fun H locs ls hg hL kk => ?_) (k _ _ rfl rfl)
        obtain ⟨kk0, hk0⟩ := List.getElem?_of_mem (m_lc_mem (bs := bs) (b := b) (q := (i, .int x)).mpr ⟨_, h1, (fun q => by cases q), rfl⟩)
        exact lv_iinc hx hb hd hL.has hk0 rfl hi rfl (fun ls' hl' => kk ls' (hL.st1 hg hl'))
      · cases hx0
    | iadd =>
      simp only [x_lok, x_ln, beq_iff_eq] at hln; subst hln
      obtain ⟨x, y, r, rfl, h⟩ := p_ii_some hx0
      cases h
      exact j_same (fun H locs ls hL w => lv_iadd hx hb hd w) (k _ _ rfl rfl)
    | isub =>
      simp only [x_lok, x_ln, beq_iff_eq] at hln; subst hln
      obtain ⟨x, y, r, rfl, h⟩ := p_ii_some hx0
      cases h
      exact j_same (fun H locs ls hL w => lv_isub hx hb hd w) (k _ _ rfl rfl)
    | imul =>
      simp only [x_lok, x_ln, beq_iff_eq] at hln; subst hln
      obtain ⟨x, y, r, rfl, h⟩ := p_ii_some hx0
      cases h
      exact j_same (fun H locs ls hL w => lv_imul hx hb hd w) (k _ _ rfl rfl)
    | iand =>
      simp only [x_lok, x_ln, beq_iff_eq] at hln; subst hln
      obtain ⟨x, y, r, rfl, h⟩ := p_ii_some hx0
      cases h
      exact j_same (fun H locs ls hL w => lv_iand hx hb hd w) (k _ _ rfl rfl)
    | ior =>
      simp only [x_lok, x_ln, beq_iff_eq] at hln; subst hln
      obtain ⟨x, y, r, rfl, h⟩ := p_ii_some hx0
      cases h
      exact j_same (fun H locs ls hL w => lv_ior hx hb hd w) (k _ _ rfl rfl)
    | ixor =>
      simp only [x_lok, x_ln, beq_iff_eq] at hln; subst hln
      obtain ⟨x, y, r, rfl, h⟩ := p_ii_some hx0
      cases h
      exact j_same (fun H locs ls hL w => lv_ixor hx hb hd w) (k _ _ rfl rfl)
    | ishl =>
      simp only [x_lok, x_ln, beq_iff_eq] at hln; subst hln
      obtain ⟨x, y, r, rfl, h⟩ := p_ii_some hx0
      cases h
      exact j_same (fun H locs ls hL w => lv_ishl hx hb hd w) (k _ _ rfl rfl)
    | ishr =>
      simp only [x_lok, x_ln, beq_iff_eq] at hln; subst hln
      obtain ⟨x, y, r, rfl, h⟩ := p_ii_some hx0
      cases h
      exact j_same (fun H locs ls hL w => lv_ishr hx hb hd w) (k _ _ rfl rfl)
    | iushr =>
      simp only [x_lok, x_ln, beq_iff_eq] at hln; subst hln
      obtain ⟨x, y, r, rfl, h⟩ := p_ii_some hx0
      cases h
      exact j_same (fun H locs ls hL w => lv_iushr hx hb hd rfl w) (k _ _ rfl rfl)
    | idiv =>
      simp only [x_lok, x_ln, beq_iff_eq] at hln; subst hln
      obtain ⟨x, y, r, rfl, h⟩ := p_ii_some hx0
      split at h
      · cases h
      · rename_i hy
        cases h
        exact j_same (fun H locs ls hL w => lv_idiv hx hb hd hy w) (k _ _ rfl rfl)
    | irem =>
      simp only [x_lok, x_ln, beq_iff_eq] at hln; subst hln
      obtain ⟨x, y, r, rfl, h⟩ := p_ii_some hx0
      split at h
      · cases h
      · rename_i hy
        cases h
        exact j_same (fun H locs ls hL w => lv_irem hx hb hd hy w) (k _ _ rfl rfl)
    | ineg =>
      simp only [x_lok, x_ln, beq_iff_eq] at hln; subst hln
      obtain ⟨x, r, rfl, h⟩ := p_i_some hx0
      cases h
      exact j_same (fun H locs ls hL w => lv_ineg hx hb hd w) (k _ _ rfl rfl)
    | ladd =>
      simp only [x_lok, x_ln, beq_iff_eq] at hln; subst hln
      obtain ⟨x, y, r, rfl, h⟩ := p_ll_some hx0
      cases h
      exact j_same (fun H locs ls hL w => lv_ladd hx hb hd w) (k _ _ rfl rfl)
    | lmul =>
      simp only [x_lok, x_ln, beq_iff_eq] at hln; subst hln
      obtain ⟨x, y, r, rfl, h⟩ := p_ll_some hx0
      cases h
      exact j_same (fun H locs ls hL w => lv_lmul hx hb hd w) (k _ _ rfl rfl)
    | land =>
      simp only [x_lok, x_ln, beq_iff_eq] at hln; subst hln
      obtain ⟨x, y, r, rfl, h⟩ := p_ll_some hx0
      cases h
      exact j_same (fun H locs ls hL w => lv_land hx hb hd w) (k _ _ rfl rfl)
    | lor =>
      simp only [x_lok, x_ln, beq_iff_eq] at hln; subst hln
      obtain ⟨x, y, r, rfl, h⟩ := p_ll_some hx0
      cases h
      exact j_same (fun H locs ls hL w => lv_lor hx hb hd w) (k _ _ rfl rfl)
    | lcmp =>
      simp only [x_lok, x_ln, beq_iff_eq] at hln; subst hln
      obtain ⟨x, y, r, rfl, h⟩ := p_ll_some hx0
      cases h
      exact j_same (fun H locs ls hL w => W.lcmp hx hb hd w) (k _ _ rfl rfl)
    | lshl =>
      simp only [x_lok, x_ln, beq_iff_eq] at hln; subst hln
      obtain ⟨x, y, r, rfl, h⟩ := p_li_some hx0
      cases h
      exact j_same (fun H locs ls hL w => lv_lshl hx hb hd rfl w) (k _ _ rfl rfl)
    | lushr =>
      simp only [x_lok, x_ln, beq_iff_eq] at hln; subst hln
      obtain ⟨x, y, r, rfl, h⟩ := p_li_some hx0
      cases h
      exact j_same (fun H locs ls hL w => lv_lushr hx hb hd rfl w) (k _ _ rfl rfl)
    | i2l =>
      simp only [x_lok, x_ln, beq_iff_eq] at hln; subst hln
      obtain ⟨x, r, rfl, h⟩ := p_i_some hx0
      cases h
      exact j_same (fun H locs ls hL w => lv_i2l hx hb hd rfl w) (k _ _ rfl rfl)
    | l2i =>
      simp only [x_lok, x_ln, beq_iff_eq] at hln; subst hln
      obtain ⟨x, r, rfl, h⟩ := p_l_some hx0
      cases h
      exact j_same (fun H locs ls hL w => lv_l2i hx hb hd rfl w) (k _ _ rfl rfl)
    | i2b =>
      simp only [x_lok, x_ln, beq_iff_eq] at hln; subst hln
      obtain ⟨x, r, rfl, h⟩ := p_i_some hx0
      cases h
      exact j_same (fun H locs ls hL w => lv_i2b hx hb hd rfl w) (k _ _ rfl rfl)
    | dup =>
      simp only [x_lok, x_ln, beq_iff_eq] at hln; subst hln
      simp only [m_e0] at hx0
      split at hx0
      · cases hx0
        exact j_same (fun H locs ls hL w => lv_dup hx hb hd rfl w) (k _ _ rfl rfl)
      · cases hx0
        exact j_same (fun H locs ls hL w => lv_dup hx hb hd rfl w) (k _ _ rfl rfl)
      · cases hx0
    | dup2 =>
      simp only [x_lok, x_ln, beq_iff_eq] at hln; subst hln
      obtain ⟨a, i, r, rfl, h⟩ := p_ri_some hx0
      cases h
      exact j_same (fun H locs ls hL w => lv_dup2_11 hx hb hd rfl rfl w) (k _ _ rfl rfl)
    | goto off =>
      simp only [x_lok, x_ln, beq_iff_eq] at hln; subst hln
      simp only [m_e0] at hx0
      split at hx0
      · rename_i h0
        cases hx0
        exact j_same (fun H locs ls hL w => lv_goto hx hb hd (x_to_ok h0) w) (k _ _ rfl rfl)
      · cases hx0
    | ifCond cc off =>
      simp only [x_lok, x_ln, beq_iff_eq] at hln; subst hln
      cases cc with
      | eq =>
        obtain ⟨x, r, rfl, h⟩ := p_i_some hx0
        obtain ⟨h0, ⟨hp, hz⟩ | ⟨hp, hz⟩⟩ := x_br_some h <;> cases hz
        · exact j_same (fun H locs ls hL w => lv_if_eq hx hb hd (x_to_ok h0) (fun _ => w) (fun q => absurd hp q)) (k _ _ rfl rfl)
        · exact j_same (fun H locs ls hL w => lv_if_eq hx hb hd (x_to_ok h0) (fun q => absurd q hp) (fun _ => w)) (k _ _ rfl rfl)
      | ne =>
        obtain ⟨x, r, rfl, h⟩ := p_i_some hx0
        obtain ⟨h0, ⟨hp, hz⟩ | ⟨hp, hz⟩⟩ := x_br_some h <;> cases hz
        · exact j_same (fun H locs ls hL w => lv_if_ne hx hb hd (x_to_ok h0) (fun _ => w) (fun q => by first | exact absurd hp q | exact absurd q hp)) (k _ _ rfl rfl)
        · exact j_same (fun H locs ls hL w => lv_if_ne hx hb hd (x_to_ok h0) (fun q => absurd q hp) (fun _ => w)) (k _ _ rfl rfl)
      | lt =>
        obtain ⟨x, r, rfl, h⟩ := p_i_some hx0
        obtain ⟨h0, ⟨hp, hz⟩ | ⟨hp, hz⟩⟩ := x_br_some h <;> cases hz
        · exact j_same (fun H locs ls hL w => lv_if_lt hx hb hd (x_to_ok h0) (fun _ => w) (fun q => absurd hp q)) (k _ _ rfl rfl)
        · exact j_same (fun H locs ls hL w => lv_if_lt hx hb hd (x_to_ok h0) (fun q => absurd q hp) (fun _ => w)) (k _ _ rfl rfl)
      | ge =>
        obtain ⟨x, r, rfl, h⟩ := p_i_some hx0
        obtain ⟨h0, ⟨hp, hz⟩ | ⟨hp, hz⟩⟩ := x_br_some h <;> cases hz
        · exact j_same (fun H locs ls hL w => lv_if_ge hx hb hd (x_to_ok h0) (fun _ => w) (fun q => absurd hp q)) (k _ _ rfl rfl)
        · exact j_same (fun H locs ls hL w => lv_if_ge hx hb hd (x_to_ok h0) (fun q => absurd q hp) (fun _ => w)) (k _ _ rfl rfl)
      | gt =>
        obtain ⟨x, r, rfl, h⟩ := p_i_some hx0
        obtain ⟨h0, ⟨hp, hz⟩ | ⟨hp, hz⟩⟩ := x_br_some h <;> cases hz
        · exact j_same (fun H locs ls hL w => lv_if_gt hx hb hd (x_to_ok h0) (fun _ => w) (fun q => absurd hp q)) (k _ _ rfl rfl)
        · exact j_same (fun H locs ls hL w => lv_if_gt hx hb hd (x_to_ok h0) (fun q => absurd q hp) (fun _ => w)) (k _ _ rfl rfl)
      | le =>
        obtain ⟨x, r, rfl, h⟩ := p_i_some hx0
        obtain ⟨h0, ⟨hp, hz⟩ | ⟨hp, hz⟩⟩ := x_br_some h <;> cases hz
        · exact j_same (fun H locs ls hL w => lv_if_le hx hb hd (x_to_ok h0) (fun _ => w) (fun q => absurd hp q)) (k _ _ rfl rfl)
        · exact j_same (fun H locs ls hL w => lv_if_le hx hb hd (x_to_ok h0) (fun q => absurd q hp) (fun _ => w)) (k _ _ rfl rfl)
    | if_icmp cc off =>
      simp only [x_lok, x_ln, beq_iff_eq] at hln; subst hln
      cases cc with
      | eq =>
        obtain ⟨x, y, r, rfl, h⟩ := p_ii_some hx0
        obtain ⟨h0, ⟨hp, hz⟩ | ⟨hp, hz⟩⟩ := x_br_some h <;> cases hz
        · exact j_same (fun H locs ls hL w => lv_icmp_eq hx hb hd (x_to_ok h0) (fun _ => w) (fun q => absurd hp q)) (k _ _ rfl rfl)
        · exact j_same (fun H locs ls hL w => lv_icmp_eq hx hb hd (x_to_ok h0) (fun q => absurd q hp) (fun _ => w)) (k _ _ rfl rfl)
      | ne =>
        obtain ⟨x, y, r, rfl, h⟩ := p_ii_some hx0
        obtain ⟨h0, ⟨hp, hz⟩ | ⟨hp, hz⟩⟩ := x_br_some h <;> cases hz
        · exact j_same (fun H locs ls hL w => lv_icmp_ne hx hb hd (x_to_ok h0) (fun _ => w) (fun q => by first | exact absurd hp q | exact absurd q hp)) (k _ _ rfl rfl)
        · exact j_same (fun H locs ls hL w => lv_icmp_ne hx hb hd (x_to_ok h0) (fun q => absurd q hp) (fun _ => w)) (k _ _ rfl rfl)
      | lt =>
        obtain ⟨x, y, r, rfl, h⟩ := p_ii_some hx0
        obtain ⟨h0, ⟨hp, hz⟩ | ⟨hp, hz⟩⟩ := x_br_some h <;> cases hz
        · exact j_same (fun H locs ls hL w => lv_icmp_lt hx hb hd (x_to_ok h0) (fun _ => w) (fun q => absurd hp q)) (k _ _ rfl rfl)
        · exact j_same (fun H locs ls hL w => lv_icmp_lt hx hb hd (x_to_ok h0) (fun q => absurd q hp) (fun _ => w)) (k _ _ rfl rfl)
      | ge =>
        obtain ⟨x, y, r, rfl, h⟩ := p_ii_some hx0
        obtain ⟨h0, ⟨hp, hz⟩ | ⟨hp, hz⟩⟩ := x_br_some h <;> cases hz
        · exact j_same (fun H locs ls hL w => lv_icmp_ge hx hb hd (x_to_ok h0) (fun _ => w) (fun q => absurd hp q)) (k _ _ rfl rfl)
        · exact j_same (fun H locs ls hL w => lv_icmp_ge hx hb hd (x_to_ok h0) (fun q => absurd q hp) (fun _ => w)) (k _ _ rfl rfl)
      | gt =>
        obtain ⟨x, y, r, rfl, h⟩ := p_ii_some hx0
        obtain ⟨h0, ⟨hp, hz⟩ | ⟨hp, hz⟩⟩ := x_br_some h <;> cases hz
        · exact j_same (fun H locs ls hL w => lv_icmp_gt hx hb hd (x_to_ok h0) (fun _ => w) (fun q => absurd hp q)) (k _ _ rfl rfl)
        · exact j_same (fun H locs ls hL w => lv_icmp_gt hx hb hd (x_to_ok h0) (fun q => absurd q hp) (fun _ => w)) (k _ _ rfl rfl)
      | le =>
        obtain ⟨x, y, r, rfl, h⟩ := p_ii_some hx0
        obtain ⟨h0, ⟨hp, hz⟩ | ⟨hp, hz⟩⟩ := x_br_some h <;> cases hz
        · exact j_same (fun H locs ls hL w => lv_icmp_le hx hb hd (x_to_ok h0) (fun _ => w) (fun q => absurd hp q)) (k _ _ rfl rfl)
        · exact j_same (fun H locs ls hL w => lv_icmp_le hx hb hd (x_to_ok h0) (fun q => absurd q hp) (fun _ => w)) (k _ _ rfl rfl)
    | ifnull off =>
      simp only [x_lok, x_ln, beq_iff_eq] at hln; subst hln
      simp only [m_e0] at hx0
      split at hx0
      · cases hx0
        exact j_same (fun H locs ls hL w => lv_ifnull hx hb hd w) (k _ _ rfl rfl)
      · split at hx0
        · rename_i h0
          cases hx0
          exact j_same (fun H locs ls hL w => lv_ifnullN hx hb hd (x_to_ok h0) w) (k _ _ rfl rfl)
        · cases hx0
      · cases hx0
    | ifnonnull off =>
      simp only [x_lok, x_ln, beq_iff_eq] at hln; subst hln
      simp only [m_e0] at hx0
      split at hx0
      · split at hx0
        · rename_i h0
          cases hx0
          exact j_same (fun H locs ls hL w => lv_ifnonnull hx hb hd (x_to_ok h0) w) (k _ _ rfl rfl)
        · cases hx0
      · cases hx0
        exact j_same (fun H locs ls hL w => lv_ifnonnullN hx hb hd w) (k _ _ rfl rfl)
      · cases hx0
    | tableswitch dd lo hi offs =>
      obtain ⟨x, r, rfl, h⟩ := p_i_some hx0
      split at h
      · rename_i h1
        split at h
        · rename_i h0
          cases h
          exact j_same (fun H locs ls hL w => lv_tableOut hx hb hd h1 (x_to_ok h0) w) (k _ _ rfl rfl)
        · cases h
      · rename_i h1
        rw [Option.bind_eq_some_iff] at h
        obtain ⟨off, ho, h⟩ := h
        split at h
        · rename_i h0
          cases h
          exact j_same (fun H locs ls hL w => lv_tableIn hx hb hd (fun q => h1 (Or.inl q)) (fun q => h1 (Or.inr q)) ho (x_to_ok h0) w) (k _ _ rfl rfl)
        · cases h
    | lookupswitch dd ps =>
      obtain ⟨x, r, rfl, h⟩ := p_i_some hx0
      split at h
      · rename_i h0
        cases h
        exact j_same (fun H locs ls hL w => lv_lookup hx hb hd h0.1 rfl (x_to_ok h0.2) w) (k _ _ rfl rfl)
      · cases h
    | getfield i =>
      simp only [x_lok, x_ln, beq_iff_eq] at hln; subst hln
      obtain ⟨a, r, rfl, h⟩ := p_r_some hx0
      rw [Option.bind_eq_some_iff] at h
      obtain ⟨⟨ci, kf⟩, hlf, h⟩ := h
      rw [Option.map_eq_some_iff] at h
      obtain ⟨v, hv, hz⟩ := h
      cases hz
      obtain ⟨fs, h1, h2⟩ := m_gf_some hv
      obtain ⟨w1, w2, w3⟩ := m_lkF_ok hlf
      intro I H locs ls hP hS hL
      exact va_get (D := (dC, dI)) (C := m_Rn ci) (T := m_T ci) (N := m_nf ci) hx hb hts (m_layok w2) hown hK hP a (m_W_get I.1 h1) (m_vw w2) kf w3 (hts _ w1) (fun _ h9 => h9) (by rw [List.getElem?_map, h2]; rfl) hd (k _ _ rfl rfl I H locs ls hP hS hL)
    | putfield i =>
      simp only [x_lok, x_ln, beq_iff_eq] at hln; subst hln
      obtain ⟨a, v, r, rfl, h⟩ := p_vr_some hx0
      rw [Option.bind_eq_some_iff] at h
      obtain ⟨⟨ci, kf⟩, hlf, h⟩ := h
      split at h
      · rename_i hfin
        rw [Option.map_eq_some_iff] at h
        obtain ⟨μ1, hv, hz⟩ := h
        cases hz
        obtain ⟨fs, h1, h2, h3, h4, h5⟩ := m_pf_some hv
        subst h5
        obtain ⟨w1, w2, w3⟩ := m_lkF_ok hlf
        obtain ⟨f1, f2⟩ := m_fit_cv (bs := bs) (b := b) h3 h4
        refine j_set (dC := dC) (dI := dI) (dA := dA) (dR := dR) (bs := bs) (b := b) h1 (e' := m_ob ci (fs.set kf v)) w2 (fun H locs ls ha hP hD hS kk => ?_) (k _ _ rfl rfl)
        have hset : m_cE dA dR bs b (m_ob ci (fs.set kf v)) = .inr (ci, (fs.map (m_cv bs b)).set kf (m_cv bs b v)) := by
          show (Sum.inr (ci, (fs.set kf v).map (m_cv bs b)) : va_E) = _
          rw [List.map_set]
        rw [hset] at kk
        cases hq : x_fin ci kf with
        | false => exact va_put (D := (dC, dI)) (C := m_Rn ci) (T := m_T ci) (N := m_nf ci) hx hb hts (m_layok w2) (m_ty ci) (m_tyok w2) (m_nmok w2) hown hK hP hD hS a ha (m_vw w2) kf w3 (hts _ w1) (fun _ h9 => h9) hq (m_tyok w2 kf w3) f2 f1 (by simpa using h2) hd (fun H1 locs1 hP1 _ hS1 => kk H1 locs1 hP1 hS1)
        | true =>
          rcases hfin with hfin | hfin
          · rw [hq] at hfin; cases hfin
          · exact va_putF (D := (dC, dI)) (C := m_Rn ci) (T := m_T ci) (N := m_nf ci) hx hb hts (m_layok w2) (m_ty ci) (m_tyok w2) (m_nmok w2) hown hK hP hD hS a ha (m_vw w2) kf w3 (hts _ w1) (fun _ h9 => h9) hq (hnm hfin.1) (hfin.2.trans hon.symm) (m_tyok w2 kf w3) f2 f1 (by simpa using h2) hd (fun H1 locs1 hP1 _ hS1 => kk H1 locs1 hP1 hS1)
      · cases h
    | iaload =>
      simp only [x_lok, x_ln, beq_iff_eq] at hln; subst hln
      simp only [m_e0] at hx0
      split at hx0
      · rw [Option.map_eq_some_iff] at hx0
        obtain ⟨v, hv, hz⟩ := hx0
        cases hz
        obtain ⟨n, f, h1, h2, h3⟩ := m_ga_some hv
        subst h3
        intro I H locs ls hP hS hL
        exact va_iald hx hb hK hP _ 0 (m_W_get I.1 h1) rfl (m_ix_in h2) hd (k _ _ rfl rfl I H locs ls hP hS hL)
      · rw [Option.map_eq_some_iff] at hx0
        obtain ⟨v, hv, hz⟩ := hx0
        cases hz
        unfold m_gs at hv
        split at hv
        · rename_i h2
          cases hv
          intro I H locs ls hP hS hL
          have hsc := I.2.1
          rw [hsc] at h2
          have kk := k _ _ rfl rfl I H locs ls hP hS hL
          rw [hsc] at kk
          exact va_sld hx hb hX (Nat.lt_of_lt_of_le hbb hbs) (by omega) hS (m_ix_in h2) hd kk
        · cases hv
      · cases hx0
    | baload =>
      simp only [x_lok, x_ln, beq_iff_eq] at hln; subst hln
      obtain ⟨a, i, r, rfl, h⟩ := p_ri_some hx0
      rw [Option.map_eq_some_iff] at h
      obtain ⟨v, hv, hz⟩ := h
      cases hz
      obtain ⟨kk, n, f, h1, h4, h2, h3⟩ := m_gb_some hv
      subst h3
      intro I H locs ls hP hS hL
      rcases h4 with rfl | rfl
      · exact va_zald hx hb hK hP _ 1 (m_W_get I.1 h1) rfl (m_ix_in h2) hd (k _ _ rfl rfl I H locs ls hP hS hL)
      · exact va_bald hx hb hK hP _ 2 (m_W_get I.1 h1) rfl (m_ix_in h2) hd (k _ _ rfl rfl I H locs ls hP hS hL)
    | aaload =>
      simp only [x_lok, x_ln, beq_iff_eq] at hln; subst hln
      obtain ⟨a, i, r, rfl, h⟩ := p_ri_some hx0
      rw [Option.map_eq_some_iff] at h
      obtain ⟨v, hv, hz⟩ := h
      cases hz
      obtain ⟨ci, n, f, h1, h2, h3⟩ := m_gr_some hv
      subst h3
      intro I H locs ls hP hS hL
      obtain ⟨t0, ht0⟩ := m_tyr (dA := dA) (dR := dR) (show ci = 1 ∨ ci = 3 ∨ ci = 6 from I.1.2 _ _ h1)
      have kk := k _ _ rfl rfl I H locs ls hP hS hL
      simp only [List.map_cons, m_cv_rf] at kk
      exact va_aldq hx hb hK hP _ t0 (m_W_get I.1 h1) ht0 (m_ix_in h2) hd kk
    | iastore =>
      simp only [x_lok, x_ln, beq_iff_eq] at hln; subst hln
      obtain ⟨a, i, x, r, rfl, h⟩ := p_rii_some hx0
      rw [Option.map_eq_some_iff] at h
      obtain ⟨μ1, hv, hz⟩ := h
      cases hz
      obtain ⟨n, f, h1, h2, h3⟩ := m_pa_some hv
      subst h3
      exact j_set h1 (e' := m_ia 0 n (upd f i.toNatClampNeg x)) (Nat.zero_le 2) (fun H locs ls ha hP hD hS kk => va_iast hx hb hK hP hD hS a 0 ha rfl (m_ix_in h2) hd (fun H1 locs1 hP1 _ hS1 => kk H1 locs1 hP1 hS1)) (k _ _ rfl rfl)
    | bastore =>
      simp only [x_lok, x_ln, beq_iff_eq] at hln; subst hln
      obtain ⟨a, i, x, r, rfl, h⟩ := p_rii_some hx0
      rw [Option.map_eq_some_iff] at h
      obtain ⟨μ1, hv, hz⟩ := h
      cases hz
      obtain ⟨kk, n, f, h1, h4, h2, h3⟩ := m_pb_some hv
      subst h3
      rcases h4 with rfl | rfl
      · exact j_set h1 (e' := m_ia 1 n (upd f i.toNatClampNeg (vp_nar .boolean x))) (show 1 ≤ 2 by omega) (fun H locs ls ha hP hD hS kk => va_zast hx hb hK hP hD hS a 1 ha rfl (m_ix_in h2) hd (fun H1 locs1 hP1 _ hS1 => kk H1 locs1 hP1 hS1)) (k _ _ rfl rfl)
      · exact j_set h1 (e' := m_ia 2 n (upd f i.toNatClampNeg (vp_nar .byte x))) (show 2 ≤ 2 by omega) (fun H locs ls ha hP hD hS kk => va_bast hx hb hK hP hD hS a 2 ha rfl (m_ix_in h2) hd (fun H1 locs1 hP1 _ hS1 => kk H1 locs1 hP1 hS1)) (k _ _ rfl rfl)
    | aastore =>
      simp only [x_lok, x_ln, beq_iff_eq] at hln; subst hln
      obtain ⟨a, i, v, r, rfl, h⟩ := p_rir_some hx0
      rw [Option.map_eq_some_iff] at h
      obtain ⟨μ1, hv, hz⟩ := h
      cases hz
      obtain ⟨ci, n, f, fs, h1, h5, h2, h3⟩ := m_pr_some hv
      subst h3
      have hci : ci = 1 ∨ ci = 3 ∨ ci = 6 := hI.1.2 _ _ h1
      have hci10 : ci < 10 := by omega
      obtain ⟨t0, ht0⟩ := m_tyr (dA := dA) (dR := dR) hci
      refine j_set h1 (e' := m_ra ci n (va_up f i.toNatClampNeg (some v))) hci (fun H locs ls ha hP hD hS kk => ?_) (k _ _ rfl rfl)
      have hset : m_cE dA dR bs b (m_ra ci n (va_up f i.toNatClampNeg (some v))) = .inl (dR ci, n, .inr (.inr (.inr (.inr (va_up (fun j => (f j).map (bs + ·)) i.toNatClampNeg (some (bs + v))))))) := by
        have hf : (fun j => (va_up f i.toNatClampNeg (some v) j).map (bs + ·)) = va_up (fun j => (f j).map (bs + ·)) i.toNatClampNeg (some (bs + v)) := by
          funext j
          unfold va_up
          split <;> rfl
        show (Sum.inl (dR ci, n, .inr (.inr (.inr (.inr (fun j => (va_up f i.toNatClampNeg (some v) j).map (bs + ·)))))) : va_E) = _
        rw [hf]
      rw [hset] at kk
      exact va_astq (r := (m_Rn ci, m_T ci, m_nf ci)) hx hb hK hP hD hS a t0 v ci ha ht0 (m_W_get hI.1 h5) (m_vw hci10) (m_ix_in h2) hd (fun H1 locs1 hP1 _ hS1 => kk H1 locs1 hP1 hS1)
    | arraylength =>
      simp only [x_lok, x_ln, beq_iff_eq] at hln; subst hln
      simp only [m_e0] at hx0
      split at hx0
      · rw [Option.map_eq_some_iff] at hx0
        obtain ⟨v, hv, hz⟩ := hx0
        cases hz
        intro I H locs ls hP hS hL
        rcases m_ln_some hv with ⟨kk, f, h1⟩ | ⟨ci, f, h1⟩
        · exact va_alen hx hb hK hP _ kk (m_W_get I.1 h1) (m_tyk (I.1.2 _ _ h1)) rfl hd (k _ _ rfl rfl I H locs ls hP hS hL)
        · obtain ⟨t0, ht0⟩ := m_tyr (dA := dA) (dR := dR) (show ci = 1 ∨ ci = 3 ∨ ci = 6 from I.1.2 _ _ h1)
          exact va_alen hx hb hK hP _ t0 (m_W_get I.1 h1) ht0 rfl hd (k _ _ rfl rfl I H locs ls hP hS hL)
      · cases hx0
        intro I H locs ls hP hS hL
        have kk := k _ _ rfl rfl I H locs ls hP hS hL
        simp only [List.map_cons, I.2.1] at kk
        exact va_slen hx hb hX (Nat.lt_of_lt_of_le hbb hbs) (by omega) hS hd kk
      · cases hx0
    | newarray t =>
      simp only [x_lok, x_ln, beq_iff_eq] at hln; subst hln
      obtain ⟨n, r, rfl, h⟩ := p_i_some hx0
      rw [Option.bind_eq_some_iff] at h
      obtain ⟨kk, hk, h⟩ := h
      split at h
      · rename_i hn
        cases h
        obtain ⟨n1, n2⟩ := m_nok hn
        have hc2 : cells + 1 ≤ R.cells := by have := hcl; simp only [m_new_N] at this; omega
        have hs2 : slots + n.toNatClampNeg ≤ R.slots := by have := hsl; simp only [m_new_S] at this; omega
        have h012 : kk ≤ 2 := by unfold x_tag at hk; split at hk <;> cases hk <;> omega
        refine j_new (e' := m_ia kk n.toNatClampNeg (fun _ => 0)) h012 (fun H locs ls hP hD hS kk2 => ?_) (k _ _ (by simp only [m_new_N]; omega) (by simp only [m_new_S]; omega))
        have harr : (Cond.arrayClass (newarray.typeOf t)).before args s = true := by
          unfold x_tag at hk
          split at hk <;> cases hk
          · exact hts (.arrayClass .int) (by decide +kernel)
          · exact hts (.arrayClass .boolean) (by decide +kernel)
          · exact hts (.arrayClass .byte) (by decide +kernel)
        have hby : n.toNatClampNeg * componentBytes (newarray.typeOf t) ≤ 536870912 := by
          unfold x_tag at hk
          split at hk <;> cases hk <;> simp only [newarray.typeOf, componentBytes] <;> omega
        refine va_newa (ty := newarray.typeOf t) hx hb harr rfl hK hP hD hS (fun q h => Nat.le_trans hbs h) (a0 := (n.toNatClampNeg, .inl (fun _ => 0))) ?_ n1 rfl hby hc2 hs2 hd (fun q cA H1 hK1 hP1 hD1 hS1 => ?_)
        · intro cA
          unfold x_tag at hk
          split at hk <;> cases hk <;> rfl
        · have hcA : cA = dA kk := by
            have e1 := (hK1.2 6 _ (by rfl)).2
            have e2 := (hK.2 kk _ (m_tyk h012)).2
            unfold x_tag at hk
            split at hk <;> cases hk
            · exact Option.some.inj (e1.symm.trans e2)
            · exact Option.some.inj (e1.symm.trans e2)
            · exact Option.some.inj (e1.symm.trans e2)
          subst hcA
          exact kk2 q H1 hP1 hD1 hS1
      · cases h
    | anewarray i =>
      simp only [x_lok, x_ln, beq_iff_eq] at hln; subst hln
      obtain ⟨n, r, rfl, h⟩ := p_i_some hx0
      rw [Option.bind_eq_some_iff] at h
      obtain ⟨ci, hk, h⟩ := h
      split at h
      · rename_i hn
        cases h
        obtain ⟨n1, n2⟩ := m_nok hn.1
        have hc2 : cells + 1 ≤ R.cells := by have := hcl; simp only [m_new_N] at this; omega
        have hs2 : slots + n.toNatClampNeg ≤ R.slots := by have := hsl; simp only [m_new_S] at this; omega
        obtain ⟨w1, w2⟩ := m_lkC_ok hk
        have hAO : va_AO (m_Rn ci) s := by
          rcases hn.2 with rfl | rfl | rfl
          · exact hN (.arrayOver (.object RX1)) (by decide +kernel)
          · exact hN (.arrayOver (.object RX3)) (by decide +kernel)
          · exact hN (.arrayOver (.object RX7)) (by decide +kernel)
        obtain ⟨t0, ht0⟩ := m_tyr (dA := dA) (dR := dR) hn.2
        refine j_new (e' := m_ra ci n.toNatClampNeg (fun _ => none)) hn.2 (fun H locs ls hP hD hS kk2 => ?_) (k _ _ (by simp only [m_new_N]; omega) (by simp only [m_new_S]; omega))
        refine va_newq hx hb hown (hts _ w1) hAO hK hP hD hS (fun q h => Nat.le_trans hbs h) n1 rfl (by omega) hc2 hs2 hd (fun q cA H1 hK1 hP1 hD1 hS1 => ?_)
        have hcA : cA = dR ci := by
          obtain ⟨_, _, -, -, -, e1⟩ := (hK1.2 6 _ (by rfl)).2
          obtain ⟨_, _, -, -, -, e2⟩ := (hK.2 t0 _ ht0).2
          exact Option.some.inj (e1.symm.trans e2)
        subst hcA
        exact kk2 q H1 hP1 hD1 hS1
      · cases h
    | new i =>
      simp only [x_lok, x_ln, beq_iff_eq] at hln; subst hln
      simp only [m_e0] at hx0
      rw [Option.bind_eq_some_iff] at hx0
      obtain ⟨ci, hk, h⟩ := hx0
      cases h
      obtain ⟨w1, w2⟩ := m_lkC_ok hk
      have hc2 : cells + 1 ≤ R.cells := by have := hcl; simp only [m_new_N] at this; omega
      have hs2 : slots + m_nf ci ≤ R.slots := by have := hsl; simp only [m_new_S] at this; omega
      refine j_new (e' := m_ob ci (x_nf ci)) w2 (fun H locs ls hP hD hS kk2 => ?_) (k _ _ (by simp only [m_new_N]; omega) (by simp only [m_new_S]; omega))
      refine va_new (D := (dC, dI)) (C := m_Rn ci) (T := m_T ci) (N := m_nf ci) hx hb hts (m_layok w2) (m_ty ci) (m_tyok w2) hown (hts _ w1) (hts _ (m_inst w2)) (hts _ (m_init w2)) hK hP hD hS (fun q h => Nat.le_trans hbs h) (m_vw w2) (fs := (x_nf ci).map (m_cv bs b)) (fun j hj => ?_) hc2 hs2 hd (fun q H1 hP1 hD1 hS1 => kk2 q H1 hP1 hD1 hS1)
      unfold vp_V x_nf
      rw [List.getD_eq_getElem?_getD, List.getElem?_map, List.getElem?_map, List.getElem?_range hj]
      show defaultValue (m_ty ci j) = m_cv bs b (defaultValue (m_ty ci j))
      cases m_ty ci j <;> rfl
    | invokespecial i =>
      simp only [x_lok, x_ln, beq_iff_eq] at hln; subst hln
      simp only [m_e0] at hx0
      rw [Option.bind_eq_some_iff] at hx0
      obtain ⟨q, hq, h⟩ := hx0
      cases q with
      | some q =>
        simp only at h
        split at h
        · unfold x_call at h
          split at h <;> cases h
        · cases h
      | none =>
        simp only at h
        obtain ⟨a, r, rfl, h0⟩ := p_r_some h
        clear h
        split at h0
        · rename_i hr
          cases h0
          unfold m_lkP at hq
          cases hf : m_LP.find? (fun q => q.1 == m_own m && q.2.1 == i) with
          | none => rw [hf] at hq; cases hq
          | some q =>
            rw [hf] at hq
            obtain ⟨h1, h2, h3⟩ := m_find hf
            have h4 := List.all_eq_true.mp m_okP_all q h1
            have h5 : q.2.2.1 = none := Option.some.inj hq
            unfold m_okP at h4
            rw [h5, h2, h3] at h4
            simp only [Bool.and_eq_true] at h4
            intro I H locs ls hP hS hL
            have hm := m_rlen (bs := bs) (b := b) hr.1
            exact W.objInit hx hb hown (hts _ (m_at_in h4.1.1)) (hts _ (m_at_in h4.1.2)) (hts _ (m_at_in h4.2)) rfl (hL.1.trans hml.symm) rfl hd (by omega) (by have := lv_room (m := mid) (pc := pc) (ls := ls) (rest := (Value.ref a :: r).map (m_cv bs b)) hm; omega) (k _ _ rfl rfl I H locs ls hP hS hL)
        · cases h0
    | invokestatic i =>
      simp only [x_lok, x_ln, beq_iff_eq] at hln; subst hln
      simp only [m_e0] at hx0
      rw [Option.bind_eq_some_iff] at hx0
      obtain ⟨q, hq, h⟩ := hx0
      split at h
      · rename_i hmx
        obtain ⟨x, y, r, rfl, h0⟩ := p_ii_some h
        clear h
        split at h0
        · rename_i hr
          cases h0
          unfold m_lkS at hq
          cases hf : m_LT.find? (fun q => q.1 == m_own m && q.2.1 == i) with
          | none => rw [hf] at hq; cases hq
          | some z =>
            rw [hf] at hq
            obtain ⟨h1, h2, h3⟩ := m_find hf
            have h4 := List.all_eq_true.mp m_okT_all z h1
            have h5 : z.2.2.1 = q := Option.some.inj hq
            have h6 : z.2.2.1.1 = m_mx := by rw [h5]; exact hmx
            unfold m_okT at h4
            simp only [Bool.and_eq_true] at h4
            obtain ⟨⟨⟨⟨⟨a1, a2⟩, a3⟩, a4⟩, a5⟩, a6⟩ := h4
            have hkind : z.2.2.2.1 = 0 := by
              have : ∀ z ∈ m_LT, z.2.2.1.1 = m_mx → z.2.2.2.1 = 0 := by decide +kernel
              exact this z h1 h6
            rw [hkind, h6, h2, h3] at a6
            rw [h6] at a4 a5
            intro I H locs ls hP hS hL
            have hm := m_rlen (bs := bs) (b := b) hr.1
            exact va_mmax hx hb (hml.trans hL.1.symm) hown (hts _ (m_at_in a6)) (hts _ (m_at_in a4)) (hts _ (m_at_in a5)) (hts _ (m_mx_cw ▸ m_cw_in (m := m_mx) (by decide))) (by omega) (by omega) (by simp only at hcl; omega) (by simp only at hsl; omega) hd (k _ _ rfl rfl I H locs ls hP hS hL)
        · cases h0
      · unfold x_call at h
        split at h <;> cases h
    | invokevirtual i =>
      simp only [m_e0] at hx0
      simp only [Option.bind_eq_some_iff] at hx0
      obtain ⟨q, hq, c0, hc0, z0, hz0, h⟩ := hx0
      unfold x_call at h
      split at h <;> cases h
    | ireturn =>
      simp only [m_e0] at hx0
      split at hx0
      · split at hx0 <;> cases hx0
      · cases hx0
    | lreturn =>
      simp only [m_e0] at hx0
      split at hx0
      · split at hx0 <;> cases hx0
      · cases hx0
    | areturn =>
      simp only [m_e0] at hx0
      split at hx0
      · split at hx0 <;> cases hx0
      · split at hx0 <;> cases hx0
      · cases hx0
    | return_ =>
      simp only [m_e0] at hx0
      split at hx0 <;> cases hx0
    | _ => cases hx0
  · cases hx0
end mst2
end
section
/-! a static method called by the name of a class that inherits it -/
theorem x_wpUp {Q : Unit → Pre} {E : CtlPost} {e : Env} {d : Bool} {acts : List Action} {s s₀ : State} {f : JFrame} {index ci n cn : Nat} {m : MethodId} {dk ck : Class} {cf : ClassFile} {name desc : String} (hs : s.topJava?.isSome) (hp : e.platform.polymorphicOnlyByInvokevirtual = true)
    (hW : s₀.WarmedH s.vm) (hE : s₀.MethodEntryUp e s.vm f.method.cls index cn m ci) (h1 : s₀.vm.classes[f.method.cls]? = some dk) (h2 : dk.cf = some cf)
    (h3 : cf.constantPool[index]? = some (.methodref ci n)) (h4 : cf.constantPool.nameAndType? n = some (name, desc))
    (hck : s₀.vm.classes[cn]? = some ck) (hnone : (ck.methods.any fun x => x.name == name && !x.isStatic && signaturePolymorphic ck x) = false) :
    wp (Op.invokestatic.sem index) Q E e d acts (s.setTop f) ↔ wp (Op.invokestatic.sem index) Q E e d acts ((s.setVm (s.vm.calledUp f.method.cls ci index cn m)).setTop f) := by
  obtain ⟨hgc, hrc, hW₁, hgm⟩ := hE.classFirst
  obtain ⟨k₀, hk₀, he₀⟩ := hW.alike.2.2 _ _ h1
  obtain ⟨k₂, hk₂, he₂⟩ := hE.warmed.alike.2.2 _ _ h1
  obtain ⟨c₁, hc₁, hec₁⟩ := hW₁.alike.2.2 _ _ hck
  obtain ⟨c₂, hc₂, hec₂⟩ := hE.warmed.alike.2.2 _ _ hck
  have hb₀ := memberRef_ask_via (e := e) (via := false) hk₀ (by rw [he₀]; exact h2) h3 h4
  have hb₂ := memberRef_ask_via (e := e) (via := false) hk₂ (by rw [he₂]; exact h2) h3 h4
  have hn₁ : (c₁.methods.any fun x => x.name == name && !x.isStatic && signaturePolymorphic c₁ x) = false := by rw [hec₁]; exact hnone
  have hn₂ : (c₂.methods.any fun x => x.name == name && !x.isStatic && signaturePolymorphic c₂ x) = false := by rw [hec₂]; exact hnone
  have hs₁ : (s.setVm (s.vm.noted f.method.cls ci (.cls cn))).topJava?.isSome := hs
  have hs₂ : (s.setVm (s.vm.calledUp f.method.cls ci index cn m)).topJava?.isSome := hs
  have hL : ∀ {Q' : ClassId → Pre} {d' : Bool} {acts' : List Action}, wp (Jvm.resolveClassAt ci) Q' E e d' acts' (s.setTop f) ↔ Q' cn d' acts' ((s.setVm (s.vm.noted f.method.cls ci (.cls cn))).setTop f) :=
    W.resolveClassAt_links (t := s.setTop f) (State.method?_setTop f hs) hgc
  have hM : ∀ {Q' : MethodId → Pre} {d' : Bool} {acts' : List Action}, wp (Jvm.resolveMethodAt index) Q' E e d' acts' ((s.setVm (s.vm.noted f.method.cls ci (.cls cn))).setTop f) ↔ Q' m d' acts' ((s.setVm (s.vm.calledUp f.method.cls ci index cn m)).setTop f) :=
    W.resolveMethodAt_links (t := (s.setVm (s.vm.noted f.method.cls ci (.cls cn))).setTop f) (State.method?_setTop f hs₁) hgm
  simp [Op.invokestatic.sem, hp, Seam.memberRefOf, State.method?_setTop f hs, State.method?_setTop f hs₂, hb₀, hb₂, hL, W.resolveClassAt_ready (s := (s.setVm (s.vm.calledUp f.method.cls ci index cn m)).setTop f) (State.method?_setTop f hs₂) hE.classReady,
    hc₁, hc₂, hn₁, hn₂, hM, W.resolveMethodAt_ready (s := (s.setVm (s.vm.calledUp f.method.cls ci index cn m)).setTop f) (State.method?_setTop f hs₂) hE.ready, -Array.any_eq_true]
section xup
variable {p : Program} {l : Launch} {e : Env} {R : Room} {s : State} {m : MethodId} {args : Array Value} {below : List Frame} {meth : Method} {c : Code} {T : State} {H : Heap} {locs : List Loc} {cells slots : Nat}
theorem x_invUp (X : Stand p l e R s m args below meth c T locs cells slots) (hexec : p.tables.exec = Jvm.exec)
    {own owner : String} {index : Nat} {x : MethodName} (hown : s.vm.findClass own = some m.cls) (hlink : (Cond.methodLink own index x).before args s = true)
    (hsame : (Cond.sameMethod x.cls owner x.name x.desc).before args s = true) (howner : owner ≠ "java/lang/invoke/MethodHandle" ∧ owner ≠ "java/lang/invoke/VarHandle")
    {m' : MethodId} {meth' : Method} {k' : Class} (hn : s.methodNamed? ⟨owner, x.name, x.desc⟩ = some m') (hm' : s.vm.method? m' = some meth') (hstatic : meth'.isStatic = true)
    (hk' : s.vm.classes[m'.cls]? = some k') (hinit : k'.init = .initialized)
    {g : JFrame} (hg : g.method = m) {argsL rest : List Value} (hlen : argsL.length = meth'.sig.parameters.length) (hstack : g.stack = argsL.reverse ++ rest)
    (hdg : decode c.code g.pc = .ok (.invokestatic index, 3)) :
    ∃ vm', Stand p l e R s m args below meth c (T.setVm vm') locs cells slots ∧
      ∀ target, (∀ acts, Steps p.tables e below (doInvoke e ((T.setVm vm').setTop { g with stack := rest }) acts m' argsL.toArray).1 target) → Steps p.tables e below (T.setTop g) target := by
  have hpl : e.platform.magicAccessors = ({} : Platform).magicAccessors := by rw [X.admits.platform]
  have hpv : e.platform.polymorphicOnlyByInvokevirtual = true := by rw [X.admits.platform]
  obtain ⟨cn, ck, r1, hcn, hck, hni, hf, hn1⟩ := Cond.sameMethod_found hsame
  cases hn.symm.trans hn1
  obtain ⟨ci, hl, hright⟩ := Cond.methodLink_specUp hown hcn hck hni hf hlink e.platform hpl (by rw [X.admits.platform])
  have hE : s.MethodEntryUp e T.vm m.cls index cn m' ci := State.methodEntryUp X.warmed hl hright
  obtain ⟨kx, hkx, hnx⟩ := className_of_methodNamed hn
  cases hk'.symm.trans hkx
  obtain ⟨dk, cfile, nt, mname, mdesc, ck0, mk0, meth0, hd, hcf, hcp, hnt, -, -, hck0, -, hnopoly, -⟩ := hl.here
  cases hck.symm.trans hck0
  have alike := hE.warmed.alike
  obtain ⟨dk₂, hdk₂, hed₂⟩ := alike.2.2 _ _ hd
  obtain ⟨k₂, hk₂, he₂⟩ := alike.2.2 _ _ hk'
  obtain ⟨ck₂, hck₂, hec₂⟩ := alike.2.2 _ _ hck
  have hnone : (ck.methods.any fun y => y.name == mname && !y.isStatic && signaturePolymorphic ck y) = false := by simp [hnopoly]
  have hnone₂ : (ck₂.methods.any fun y => y.name == mname && !y.isStatic && signaturePolymorphic ck₂ y) = false := by rw [hec₂]; exact hnone
  refine ⟨T.vm.calledUp m.cls ci index cn m', X.noted hE.warmed, fun target hrest => ?_⟩
  subst hg
  jvm_step X.here [hexec, hdg, x_wpUp (e := e) (s := T) (s₀ := s) (f := g) X.here.top hpv X.warmed hE hd hcf hcp hnt hck hnone,
    Op.invokestatic.wp_ready (e := e) (s := T.setVm (T.vm.calledUp g.method.cls ci index cn m')) (k := k₂) (meth := meth') (m := m') (args := argsL) (rest := rest) (f := g)
      X.here.top ⟨ci, mname, mdesc, false, cn, ck₂, memberRef_ask_via (e := e) (via := false) hdk₂ (by rw [hed₂]; exact hcf) hcp hnt, hE.classReady, hck₂, hnone₂⟩ hE.ready hk₂
      (by show (T.vm.calledUp g.method.cls ci index cn m').method? m' = some meth'; rw [alike.method?]; exact hm') (by rw [he₂]; show signaturePolymorphic k' meth' = false; simp [signaturePolymorphic, hnx, howner.1, howner.2]) hstatic (by rw [he₂]; exact hinit) hlen hstack]
  exact fun acts => hrest _
theorem x_runSU {y x : MethodName} {bytes cc : ByteArray} {maxL nL mc ms n index : Nat} {ret : Option FieldType} {ws ws' : List Cond} {rm : Room} {Pc : Array Value → State → Prop} {Qc : Array Value → State → Outcome → State → Prop} {free : Addr → Prop} {Ts : List Cond} {own : String} {As rest : List Value} {g : JFrame}
    (S : CallFix p m c cc nL s args Ts own) (hM : Met l y ws rm Pc Qc mc ms free) (hG : GoodIn Ts ws) (hw : ws = Cond.code y bytes maxL ret :: ws') (hrc : rm.cells = mc) (hrs : rm.slots = ms) (hini : (Cond.initialized y.cls).before args s = true) (hl : (Cond.methodLink own index x).before args s = true) (hsame : (Cond.sameMethod x.cls y.cls x.name x.desc).before args s = true) (hxy : x.name = y.name ∧ x.desc = y.desc) (hstat : (Cond.static y).before args s = true)
    (hd : y.cls ≠ "java/lang/invoke/MethodHandle" ∧ y.cls ≠ "java/lang/invoke/VarHandle" ∧ (parseMethodDescriptor y.desc).map (fun d => d.parameters.length) = some n) (hR : rm.frames + 1 ≤ R.frames ∧ 8 + (maxL + 11) + rm.locals ≤ R.locals) (hp : PreS s H Pc As)
    (hg : g.method = m) (hn : As.length = n) (hsize : g.locals.size = nL) (hstack : g.stack = As.reverse ++ rest) (hW : 2 * g.monitorRoom + (rest.map fun v => v.category).sum ≤ 8) (hdg : decode cc g.pc = .ok (.invokestatic index, 3)) (hf : cells + mc ≤ R.cells ∧ slots + ms ≤ R.slots) :
    va_Run p l e R s m args below meth c H locs cells slots mc ms g rest (Qc As.toArray) (free) := by
  obtain ⟨hx, hb, hml, ho, ht⟩ := S
  have hcw : Cond.code y bytes maxL ret ∈ ws := by rw [hw]; exact List.mem_cons_self
  have hcode := ht _ (hG _ hcw).1
  have hK : Back l R p e below s args y 3 8 (PreOf R mc ms Pc) (PostOf Qc mc ms free) := back_of (bytes := bytes) (maxL := maxL) (ret := ret) hM hp.1 hrc hrs hR.1 hR.2 (pay_in ht hG) hcw (fun a' U hW => word_at hW (Or.inl (by first | rfl | simp [Cond.onTables, Cond.keeps, Cond.steady])) hini)
  intro T hT X
  obtain ⟨mk, hnamed⟩ := Cond.code_named hcode
  obtain ⟨methM, cM, hmethM, -, -, -, -, -, -, hsigM⟩ := Cond.code_spec hnamed hcode
  have hstatic : methM.isStatic = true := Cond.static_spec hnamed hmethM hstat
  obtain ⟨kP, hkP, -⟩ := className_of_methodNamed hnamed
  have hinitP : kP.init = .initialized := Cond.initialized_spec (findClass_of_methodNamed hnamed) hkP hini
  have hlen : As.length = methM.sig.parameters.length := by
    have h2 := hd.2.2
    rw [hsigM] at h2
    exact hn.trans (Option.some.inj h2).symm
  have hnamed' : s.methodNamed? ⟨y.cls, x.name, x.desc⟩ = some mk := by rw [hxy.1, hxy.2]; exact hnamed
  subst hb
  obtain ⟨vm₁, X₁, hstep₁⟩ := x_invUp X hx ho hl hsame ⟨hd.1, hd.2.1⟩ hnamed' hmethM hstatic hkP hinitP (g := g) hg (argsL := As) (rest := rest) hlen hstack hdg
  obtain ⟨v, ⟨U', l2, c2, s2⟩, X', hpost, hsteps⟩ := hK m meth c ⟨T.setVm vm₁, locs, cells, slots⟩ { g with stack := rest } (.invokestatic index) mk As.toArray X₁ hg (hsize.trans hml.symm) hdg hW (X₁.named hnamed) ⟨hf.1, hf.2, hp.2 (T.setVm vm₁) hT X₁.warmed⟩
  obtain ⟨g', mk', t, L, e1, e2, hq, h1, hL, h2, h3⟩ := hpost
  dsimp only [Pt.U, Pt.locs, Pt.cells, Pt.slots] at X' e1 e2 h1 h2 h3 hsteps
  subst h1; subst h2; subst h3
  exact ⟨v, (T.setVm vm₁).calling g' mk' As.toArray, t, U', L, hT, X', hL, e1, e2, hq, fun target h => hstep₁ _ fun acts => by rw [doInvoke_state]; exact hsteps.trans h⟩
end xup
end
section
/-! a method's contract out of the machine's run -/
def m_keep (L : List Value) (μ : mM) (z : mX) : Prop := match z with
  | .inl c => c.2.1.length = L.length ∧ mN μ ≤ mN c.2.2.2 ∧ mS μ ≤ mS c.2.2.2 ∧ c.2.2.2.2.1 = μ.2.1 ∧ (m_wf μ → m_wf c.2.2.2)
  | _ => True
def x_plain (i : Instr) : Bool := match i with
  | .ireturn => false
  | .lreturn => false
  | .areturn => false
  | .return_ => false
  | .invokestatic _ => false
  | .invokevirtual _ => false
  | .invokespecial _ => false
  | _ => true
def m_kq (i : Instr) (L : List Value) (μ : mM) (z : mX) : Prop := m_keep L μ z ∧ (x_plain i = true → z.isLeft = true)
theorem m_kp {i : Instr} {pc : Nat} {L st L' : List Value} {μ : mM} (h : L'.length = L.length) : m_kq i L μ (.inl (pc, L', st, μ)) := ⟨⟨h, Nat.le_refl _, Nat.le_refl _, rfl, fun h => h⟩, fun _ => rfl⟩
theorem x_br_keep {i : Instr} {pc : Nat} {off : Int} {L st : List Value} {μ : mM} {P : Prop} [Decidable P] {z : mX} (h : x_br pc off L st μ P = some z) : m_kq i L μ z := by
  obtain ⟨-, ⟨-, rfl⟩ | ⟨-, rfl⟩⟩ := x_br_some h <;> exact m_kp rfl
theorem x_call_keep {m cal n : Nat} {L st : List Value} {μ : mM} {z : mX} (h : x_call m cal n st = some z) : m_keep L μ z := by
  unfold x_call at h
  split at h <;> cases h
  trivial
set_option maxHeartbeats 4000000 in
theorem m_e0_keep {m pc : Nat} {L st : List Value} {μ : mM} {i : Instr} {z : mX} (h : m_e0 m pc L st μ i = some z) : m_kq i L μ z := by
  cases i with
  | iload i => obtain ⟨x, -, rfl⟩ := t_iload h; exact m_kp rfl
  | iload_n i => obtain ⟨x, -, rfl⟩ := t_iload h; exact m_kp rfl
  | lload i => obtain ⟨x, -, rfl⟩ := t_lload h; exact m_kp rfl
  | lload_n i => obtain ⟨x, -, rfl⟩ := t_lload h; exact m_kp rfl
  | aload i => obtain ⟨x, -, -, rfl⟩ := t_aload h; exact m_kp rfl
  | aload_n i => obtain ⟨x, -, -, rfl⟩ := t_aload h; exact m_kp rfl
  | istore i => obtain ⟨x, r, -, -, rfl⟩ := t_istore h; exact m_kp (x_st_len _ _ _ _)
  | istore_n i => obtain ⟨x, r, -, -, rfl⟩ := t_istore h; exact m_kp (x_st_len _ _ _ _)
  | lstore i => obtain ⟨x, r, -, -, -, rfl⟩ := t_lstore h; exact m_kp (by rw [x_st_len, List.length_set])
  | lstore_n i => obtain ⟨x, r, -, -, -, rfl⟩ := t_lstore h; exact m_kp (by rw [x_st_len, List.length_set])
  | astore i => obtain ⟨x, r, -, -, -, rfl⟩ := t_astore h; exact m_kp (x_st_len _ _ _ _)
  | astore_n i => obtain ⟨x, r, -, -, -, rfl⟩ := t_astore h; exact m_kp (x_st_len _ _ _ _)
  | iinc i n =>
    simp only [m_e0] at h
    split at h
    · cases h; exact m_kp (x_st_len _ _ _ _)
    · cases h
  | ldc_w n => simp only [m_e0, Option.map_eq_some_iff] at h; obtain ⟨v, -, rfl⟩ := h; exact m_kp rfl
  | ldc2_w n => simp only [m_e0, Option.map_eq_some_iff] at h; obtain ⟨v, -, rfl⟩ := h; exact m_kp rfl
  | idiv => obtain ⟨x, y, r, -, h⟩ := p_ii_some h; split at h <;> cases h; exact m_kp rfl
  | irem => obtain ⟨x, y, r, -, h⟩ := p_ii_some h; split at h <;> cases h; exact m_kp rfl
  | dup => simp only [m_e0] at h; split at h <;> cases h <;> exact m_kp rfl
  | goto off => simp only [m_e0] at h; split at h <;> cases h; exact m_kp rfl
  | ifCond cc off => cases cc <;> (obtain ⟨x, r, -, h⟩ := p_i_some h; exact x_br_keep h)
  | if_icmp cc off => cases cc <;> (obtain ⟨x, y, r, -, h⟩ := p_ii_some h; exact x_br_keep h)
  | ifnull off =>
    simp only [m_e0] at h
    split at h
    · cases h; exact m_kp rfl
    · split at h <;> cases h; exact m_kp rfl
    · cases h
  | ifnonnull off =>
    simp only [m_e0] at h
    split at h
    · split at h <;> cases h; exact m_kp rfl
    · cases h; exact m_kp rfl
    · cases h
  | tableswitch d lo hi offs =>
    obtain ⟨x, r, -, h⟩ := p_i_some h
    split at h
    · split at h <;> cases h; exact m_kp rfl
    · rw [Option.bind_eq_some_iff] at h
      obtain ⟨off, -, h⟩ := h
      split at h <;> cases h; exact m_kp rfl
  | lookupswitch d ps =>
    obtain ⟨x, r, -, h⟩ := p_i_some h
    split at h <;> cases h; exact m_kp rfl
  | getfield i =>
    obtain ⟨a, r, -, h⟩ := p_r_some h
    rw [Option.bind_eq_some_iff] at h
    obtain ⟨q, -, h⟩ := h
    rw [Option.map_eq_some_iff] at h
    obtain ⟨v, -, rfl⟩ := h
    exact m_kp rfl
  | putfield i =>
    obtain ⟨a, v, r, -, h⟩ := p_vr_some h
    rw [Option.bind_eq_some_iff] at h
    obtain ⟨⟨q1, q2⟩, hlf, h⟩ := h
    split at h
    · rw [Option.map_eq_some_iff] at h
      obtain ⟨μ1, h1, rfl⟩ := h
      obtain ⟨fs, hfa, -, -, -, rfl⟩ := m_pf_some h1
      exact ⟨⟨rfl, Nat.le_refl _, Nat.le_refl _, rfl, fun h => h.set (h.lt hfa) (m_lkF_ok hlf).2.1⟩, fun _ => rfl⟩
    · cases h
  | iaload =>
    simp only [m_e0] at h
    split at h
    · rw [Option.map_eq_some_iff] at h; obtain ⟨v, -, rfl⟩ := h; exact m_kp rfl
    · rw [Option.map_eq_some_iff] at h; obtain ⟨v, -, rfl⟩ := h; exact m_kp rfl
    · cases h
  | baload => obtain ⟨a, i, r, -, h⟩ := p_ri_some h; rw [Option.map_eq_some_iff] at h; obtain ⟨v, -, rfl⟩ := h; exact m_kp rfl
  | aaload => obtain ⟨a, i, r, -, h⟩ := p_ri_some h; rw [Option.map_eq_some_iff] at h; obtain ⟨v, -, rfl⟩ := h; exact m_kp rfl
  | iastore =>
    obtain ⟨a, i, x, r, -, h⟩ := p_rii_some h; rw [Option.map_eq_some_iff] at h; obtain ⟨μ1, h1, rfl⟩ := h
    obtain ⟨_, _, hfa, -, rfl⟩ := m_pa_some h1
    exact ⟨⟨rfl, Nat.le_refl _, Nat.le_refl _, rfl, fun h => h.set (h.lt hfa) (Nat.zero_le 2)⟩, fun _ => rfl⟩
  | bastore =>
    obtain ⟨a, i, x, r, -, h⟩ := p_rii_some h; rw [Option.map_eq_some_iff] at h; obtain ⟨μ1, h1, rfl⟩ := h
    obtain ⟨kk, _, _, hfa, hkk, -, rfl⟩ := m_pb_some h1
    exact ⟨⟨rfl, Nat.le_refl _, Nat.le_refl _, rfl, fun h => h.set (h.lt hfa) (show kk ≤ 2 by omega)⟩, fun _ => rfl⟩
  | aastore =>
    obtain ⟨a, i, x, r, -, h⟩ := p_rir_some h; rw [Option.map_eq_some_iff] at h; obtain ⟨μ1, h1, rfl⟩ := h
    obtain ⟨_, _, _, _, hfa, -, -, rfl⟩ := m_pr_some h1
    exact ⟨⟨rfl, Nat.le_refl _, Nat.le_refl _, rfl, fun h => h.set (h.lt hfa) (show _ = 1 ∨ _ = 3 ∨ _ = 6 from h.2 _ _ hfa)⟩, fun _ => rfl⟩
  | arraylength =>
    simp only [m_e0] at h
    split at h
    · rw [Option.map_eq_some_iff] at h; obtain ⟨v, -, rfl⟩ := h; exact m_kp rfl
    · cases h; exact m_kp rfl
    · cases h
  | newarray t =>
    obtain ⟨n, r, -, h⟩ := p_i_some h
    rw [Option.bind_eq_some_iff] at h
    obtain ⟨k, hk, h⟩ := h
    split at h <;> cases h
    exact ⟨⟨rfl, Nat.le_succ _, Nat.le_add_right _ _, rfl, fun h => h.new (show k ≤ 2 by unfold x_tag at hk; split at hk <;> cases hk <;> omega)⟩, fun _ => rfl⟩
  | anewarray t =>
    obtain ⟨n, r, -, h⟩ := p_i_some h
    rw [Option.bind_eq_some_iff] at h
    obtain ⟨k, hk, h⟩ := h
    split at h
    · rename_i hn
      cases h
      exact ⟨⟨rfl, Nat.le_succ _, Nat.le_add_right _ _, rfl, fun h => h.new hn.2⟩, fun _ => rfl⟩
    · cases h
  | new t =>
    simp only [m_e0] at h
    rw [Option.bind_eq_some_iff] at h
    obtain ⟨k, hk, h⟩ := h
    cases h
    exact ⟨⟨rfl, Nat.le_succ _, Nat.le_add_right _ _, rfl, fun h => h.new (m_lkC_ok hk).2⟩, fun _ => rfl⟩
  | invokestatic i =>
    simp only [m_e0] at h
    rw [Option.bind_eq_some_iff] at h
    obtain ⟨q, -, h⟩ := h
    split at h
    · obtain ⟨x, y, r, -, h⟩ := p_ii_some h
      split at h <;> cases h
      exact m_kp rfl
    · exact ⟨x_call_keep h, fun q => by simp [x_plain] at q⟩
  | invokevirtual i =>
    simp only [m_e0, Option.bind_eq_some_iff] at h
    obtain ⟨q, -, c0, -, z0, -, h⟩ := h
    exact ⟨x_call_keep h, fun q => by simp [x_plain] at q⟩
  | invokespecial i =>
    simp only [m_e0] at h
    rw [Option.bind_eq_some_iff] at h
    obtain ⟨q, -, h⟩ := h
    cases q with
    | none =>
      obtain ⟨a, r, -, h⟩ := p_r_some h
      split at h <;> cases h
      exact m_kp rfl
    | some q =>
      simp only at h
      split at h
      · exact ⟨x_call_keep h, fun q => by simp [x_plain] at q⟩
      · cases h
  | ireturn =>
    simp only [m_e0] at h
    split at h
    · split at h <;> cases h; exact ⟨trivial, fun q => by simp [x_plain] at q⟩
    · cases h
  | lreturn =>
    simp only [m_e0] at h
    split at h
    · split at h <;> cases h; exact ⟨trivial, fun q => by simp [x_plain] at q⟩
    · cases h
  | areturn =>
    simp only [m_e0] at h
    split at h
    · split at h <;> cases h; exact ⟨trivial, fun q => by simp [x_plain] at q⟩
    · split at h <;> cases h; exact ⟨trivial, fun q => by simp [x_plain] at q⟩
    · cases h
  | return_ =>
    simp only [m_e0] at h
    split at h <;> cases h; exact ⟨trivial, fun q => by simp [x_plain] at q⟩
  | iconst n => cases h; exact m_kp rfl
  | bipush n => cases h; exact m_kp rfl
  | sipush n => cases h; exact m_kp rfl
  | lconst n => cases h; exact m_kp rfl
  | aconst_null => cases h; exact m_kp rfl
  | iadd => obtain ⟨x, y, r, -, h⟩ := p_ii_some h; cases h; exact m_kp rfl
  | isub => obtain ⟨x, y, r, -, h⟩ := p_ii_some h; cases h; exact m_kp rfl
  | imul => obtain ⟨x, y, r, -, h⟩ := p_ii_some h; cases h; exact m_kp rfl
  | iand => obtain ⟨x, y, r, -, h⟩ := p_ii_some h; cases h; exact m_kp rfl
  | ior => obtain ⟨x, y, r, -, h⟩ := p_ii_some h; cases h; exact m_kp rfl
  | ixor => obtain ⟨x, y, r, -, h⟩ := p_ii_some h; cases h; exact m_kp rfl
  | ishl => obtain ⟨x, y, r, -, h⟩ := p_ii_some h; cases h; exact m_kp rfl
  | ishr => obtain ⟨x, y, r, -, h⟩ := p_ii_some h; cases h; exact m_kp rfl
  | iushr => obtain ⟨x, y, r, -, h⟩ := p_ii_some h; cases h; exact m_kp rfl
  | ineg => obtain ⟨x, r, -, h⟩ := p_i_some h; cases h; exact m_kp rfl
  | ladd => obtain ⟨x, y, r, -, h⟩ := p_ll_some h; cases h; exact m_kp rfl
  | lmul => obtain ⟨x, y, r, -, h⟩ := p_ll_some h; cases h; exact m_kp rfl
  | land => obtain ⟨x, y, r, -, h⟩ := p_ll_some h; cases h; exact m_kp rfl
  | lor => obtain ⟨x, y, r, -, h⟩ := p_ll_some h; cases h; exact m_kp rfl
  | lcmp => obtain ⟨x, y, r, -, h⟩ := p_ll_some h; cases h; exact m_kp rfl
  | lshl => obtain ⟨x, y, r, -, h⟩ := p_li_some h; cases h; exact m_kp rfl
  | lushr => obtain ⟨x, y, r, -, h⟩ := p_li_some h; cases h; exact m_kp rfl
  | i2l => obtain ⟨x, r, -, h⟩ := p_i_some h; cases h; exact m_kp rfl
  | l2i => obtain ⟨x, r, -, h⟩ := p_l_some h; cases h; exact m_kp rfl
  | i2b => obtain ⟨x, r, -, h⟩ := p_i_some h; cases h; exact m_kp rfl
  | dup2 => obtain ⟨a, i, r, -, h⟩ := p_ri_some h; cases h; exact m_kp rfl
  | _ => cases h
theorem m_ex_keep {m pc len : Nat} {L st : List Value} {μ : mM} {i : Instr} {z : mX} (h : m_ex m pc len L st μ i = some z) : m_keep L μ z := by
  unfold m_ex at h
  split at h
  · exact (m_e0_keep h).1
  · cases h
theorem m_ex_plain {m pc len : Nat} {L st : List Value} {μ : mM} {i : Instr} {z : mX} (h : m_ex m pc len L st μ i = some z) (hz : z.isLeft = false) : x_plain i = false ∧ len = x_ln i ∧ m_e0 m pc L st μ i = some z := by
  unfold m_ex at h
  split at h
  · rename_i hl
    have h1 : x_plain i = false := by
      cases q : x_plain i with
      | false => rfl
      | true => rw [(m_e0_keep h).2 q] at hz; cases hz
    refine ⟨h1, ?_, h⟩
    unfold x_plain at h1
    split at h1 <;> first | exact of_decide_eq_true hl | (simpa [x_lok] using hl) | cases h1
  · cases h
theorem m_copy_some {args : List Value} {μ : mM} {w : Option Value × mM} (h : m_copy args μ = some w) : ∃ a n len f, args = [.ref a, .int n] ∧ mF μ a = some (m_ia 0 len f) ∧ len ≤ 100000 ∧ x_nok n = true ∧ w = (some (.ref (mN μ)), m_new μ n.toNatClampNeg (m_ia 0 n.toNatClampNeg (fun j => if j < len then f j else 0))) := by
  unfold m_copy at h
  split at h
  · split at h
    · rename_i q hq
      split at h
      · rename_i hc
        obtain ⟨q1, q2, q3⟩ := q
        obtain ⟨h1, h2, h3⟩ := hc
        cases h1
        cases h
        exact ⟨_, _, _, _, rfl, hq, h2, h3, rfl⟩
      · cases h
    · cases h
  · cases h
theorem m_copy_keep {args : List Value} {μ : mM} {w : Option Value × mM} (h : m_copy args μ = some w) : mN μ ≤ mN w.2 ∧ mS μ ≤ mS w.2 ∧ w.2.2.1 = μ.2.1 ∧ (m_wf μ → m_wf w.2) := by
  obtain ⟨_, _, _, _, -, -, -, -, rfl⟩ := m_copy_some h
  exact ⟨Nat.le_succ _, Nat.le_add_right _ _, rfl, fun h => h.new (Nat.zero_le 2)⟩
theorem m_run_keep : ∀ (n m pc : Nat) (L st : List Value) (μ : mM) (r : Option Value × mM), m_run n m pc L st μ = some r → mN μ ≤ mN r.2 ∧ mS μ ≤ mS r.2 ∧ r.2.2.1 = μ.2.1 ∧ (m_wf μ → m_wf r.2) := by
  intro n
  induction n with
  | zero => intro m pc L st μ r h; exact absurd h (by simp [m_run])
  | succ n ih =>
    intro m pc L st μ r h
    unfold m_run at h
    split at h
    · cases h
    · split at h
      · cases h
      · rename_i c hc
        have k := m_ex_keep hc
        have := ih _ _ _ _ _ _ h
        exact ⟨Nat.le_trans k.2.1 this.1, Nat.le_trans k.2.2.1 this.2.1, this.2.2.1.trans k.2.2.2.1, fun h => this.2.2.2 (k.2.2.2.2 h)⟩
      · cases h; exact ⟨Nat.le_refl _, Nat.le_refl _, rfl, fun h => h⟩
      · rename_i q hq
        rw [Option.bind_eq_some_iff] at h
        obtain ⟨w, hw, h⟩ := h
        have h2 := ih _ _ _ _ _ _ h
        have h1 : mN μ ≤ mN w.2 ∧ mS μ ≤ mS w.2 ∧ w.2.2.1 = μ.2.1 ∧ (m_wf μ → m_wf w.2) := by
          split at hw
          · exact m_copy_keep hw
          · exact ih _ _ _ _ _ _ hw
        exact ⟨Nat.le_trans h1.1 h2.1, Nat.le_trans h1.2.1 h2.2.1, h2.2.2.1.trans h1.2.2.1, fun h => h2.2.2.2 (h1.2.2.2 h)⟩
def m_ws (m : Nat) : List Cond := m_cw m :: m_TB
def m_rm (m mc ms : Nat) : Room := { frames := m_fr m, cells := mc, slots := ms, locals := m_lo m }
def m_Pc (dC : Nat → ClassId) (dI : Nat → Nat → Nat) (dA dR : Nat → ClassId) (bs b LL : Nat) (xs : Nat → Int32) (args : List Value) (μ : mM) : Array Value → State → Prop := va_Pc (args.map (m_cv bs b)) (fun U => U.heap.size = bs + mN μ ∧ m_Kn dC dI dA dR U ∧ va_X b LL xs U U.heap ∧ va_P (dC, dI) vwCl (m_W dA dR bs b μ) U.heap)
def m_Qc (dC : Nat → ClassId) (dI : Nat → Nat → Nat) (dA dR : Nat → ClassId) (bs b : Nat) (r : Option Value) (μ : mM) : Array Value → State → Outcome → State → Prop := fun _ st o t => o = .returned (r.map (m_cv bs b)) ∧ va_P (dC, dI) vwCl (m_W dA dR bs b μ) t.heap ∧ va_F (fun q => bs ≤ q) st t
def m_Met (l : Launch) (dC : Nat → ClassId) (dI : Nat → Nat → Nat) (dA dR : Nat → ClassId) (bs b LL : Nat) (xs : Nat → Int32) (m : Nat) (args : List Value) (μ : mM) (r : Option Value) (μ1 : mM) : Prop :=
  Met l (m_nam m) (m_ws m) (m_rm m (mN μ1 - mN μ) (mS μ1 - mS μ)) (m_Pc dC dI dA dR bs b LL xs args μ) (m_Qc dC dI dA dR bs b r μ1) (mN μ1 - mN μ) (mS μ1 - mS μ) (fun q => bs ≤ q)
theorem m_Kn_warm {dC : Nat → ClassId} {dI : Nat → Nat → Nat} {dA dR : Nat → ClassId} {s U : State} (hW : s.WarmedH U.vm) (h : m_Kn dC dI dA dR s) : m_Kn dC dI dA dR U := ⟨va_K.moved hW.alike h.1, fun w hw => m_NW_warm hw hW (h.2 w hw)⟩
theorem m_Pc_blind {dC : Nat → ClassId} {dI : Nat → Nat → Nat} {dA dR : Nat → ClassId} {bs b LL : Nat} {xs : Nat → Int32} {args : List Value} {μ : mM} : FrameBlind (m_Pc dC dI dA dR bs b LL xs args μ) := by
  intro a U g mk q
  obtain ⟨q0, q1, q2, q3, q4⟩ := q
  exact ⟨q0, q1, m_Kn_warm (U := U.calling g mk a) (State.WarmedH.refl U) q2, va_X.moved (u := U) (U := U.calling g mk a) (Vm.Alike.refl U.vm) q3, q4⟩
theorem m_cont {p : Program} {l : Launch} {e : Env} {R : Room} {s : State} {mid : MethodId} {args : Array Value} {below : List Frame} {meth : Method} {c : Code} {H : Heap} {locs : List Loc} {cells slots mc ms : Nat} {Q : State → Prop} {dC : Nat → ClassId} {dI : Nat → Nat → Nat} {dA dR : Nat → ClassId} {bs b pc : Nat} {ls : Array Slot} {st0 : List Value} {rest : List Value} {v : Option Value} {μ1 : mM} {a0 : Array Value}
    (hr : va_Run p l e R s mid args below meth c H locs cells slots mc ms (F0 mid pc ls st0) (rest.map (m_cv bs b)) (m_Qc dC dI dA dR bs b v μ1 a0) (fun q => bs ≤ q)) (hS : va_S (fun q => bs ≤ q) s.heap H locs)
    (kk : ∀ (H1 : Heap) (locs1 : List Loc), va_P (dC, dI) vwCl (m_W dA dR bs b μ1) H1 → va_S (fun q => bs ≤ q) s.heap H1 locs1 → W p l e R s mid args below meth c H1 locs1 (cells + mc) (slots + ms) Q (F0 mid (pc + 3) ls ((v.toList ++ rest).map (m_cv bs b)))) : W p l e R s mid args below meth c H locs cells slots Q (F0 mid pc ls st0) := by
  intro T hT X
  obtain ⟨v', st₀, t, T', L, h0, X', hL, e1, e2, ⟨hv, hp, hz, hk⟩, st⟩ := hr T hT X
  cases hv
  rw [h0] at hz hk
  have hst : (v.map (m_cv bs b)).toList ++ rest.map (m_cv bs b) = (v.toList ++ rest).map (m_cv bs b) := by cases v <;> simp
  rw [hst] at st
  obtain ⟨t2, a1, b1⟩ := kk T'.heap (locs ++ L) (by rw [e1]; exact hp) ⟨Nat.le_trans hS.1 (by rw [e1]; exact hz), fun q h1 h2 => by rw [e1, hk q (Nat.lt_of_lt_of_le h1 hS.1) h2]; exact hS.2.1 q h1 h2, fun q hq => by
      rcases List.mem_append.mp hq with h | h
      · exact hS.2.2 q h
      · exact hL q h⟩ T' rfl X'
  exact ⟨t2, st t2 a1, b1⟩
theorem m_GI {ws : List Cond} (h : ∀ w ∈ ws, w ∈ m_TB) : GoodIn m_TB ws := fun w hw => m_TB_good w (h w hw)
theorem m_ws_in {m : Nat} (h : m < 174) : ∀ w ∈ m_ws m, w ∈ m_TB := by
  intro w hw
  rcases List.mem_cons.mp hw with rfl | hw
  · exact m_cw_in h
  · exact hw
end
section
/-! Arrays.copyOf, walked by hand: its clone and its arraycopy are the machine's own -/
theorem k_arr {cA : ClassId} {N : Nat} {f g : Nat → Int32} (h : ∀ j, j < N → f j = g j) : vp_cell cA (N, .inl f) = vp_cell cA (N, .inl g) := by
  rw [vp_cell_i, vp_cell_i]
  unfold arrV
  congr 1
  exact congrArg _ (funext fun j => congrArg Value.int (h j.val j.isLt))
theorem k_fix {dC : Nat → ClassId} {dI : Nat → Nat → Nat} {dA dR : Nat → ClassId} {bs b N : Nat} {μ : mM} {f g : Nat → Int32} {H : Heap} (h : ∀ j, j < N → f j = g j) (hP : va_P (dC, dI) vwCl (m_W dA dR bs b μ ++ [(bs + mN μ, .inl (dA 0, N, .inl f))]) H) : va_P (dC, dI) vwCl (m_W dA dR bs b (m_new μ N (m_ia 0 N g))) H := by
  rw [m_W_new]
  refine va_P.app (fun k q hk => hP k q ?_) (fun k q hk => ?_)
  · rw [List.getElem?_append_left (List.getElem?_eq_some_iff.mp hk).1]; exact hk
  · have hz : k < 1 := (List.getElem?_eq_some_iff.mp hk).1
    rw [show k = 0 by omega] at hk
    cases hk
    have h1 := hP (mN μ) (bs + mN μ, .inl (dA 0, N, .inl f)) (by rw [List.getElem?_append_right (by rw [m_Wlen]; omega), m_Wlen, Nat.sub_self]; rfl)
    show H[bs + mN μ]? = some (vp_cell (dA 0) (N, .inl g))
    rw [← k_arr h]
    exact h1
theorem k_len {n : Nat} (h : n ≤ 100000) : (Int32.ofNat n).toNatClampNeg = n ∧ ¬ Int32.ofNat n < 0 ∧ (Int32.ofNat n).toInt = n := by
  have h1 : (nI n).toNatClampNeg = n := nI_clamp (by omega)
  have h2 : ¬ nI n < 0 := nI_pos (by omega)
  have h3 : (nI n).toInt = n := nI_toInt (by omega)
  exact ⟨h1, h2, h3⟩
theorem kw_132 : (.arrayClass .int : Cond) ∈ m_TB := m_at_in (i := 132) (by decide +kernel)
theorem kw_372 : (.methodLink RJ7 316 ⟨"[I", "clone", "()Ljava/lang/Object;"⟩ : Cond) ∈ m_TB := m_at_in (i := 372) (by decide +kernel)
theorem kw_373 : (.sameMethod "[I" "java/lang/Object" "clone" "()Ljava/lang/Object;" : Cond) ∈ m_TB := m_at_in (i := 373) (by decide +kernel)
theorem kw_374 : (.native ⟨"java/lang/Object", "clone", "()Ljava/lang/Object;"⟩ : Cond) ∈ m_TB := m_at_in (i := 374) (by decide +kernel)
theorem kw_375 : (.instanceMethod ⟨"java/lang/Object", "clone", "()Ljava/lang/Object;"⟩ : Cond) ∈ m_TB := m_at_in (i := 375) (by decide +kernel)
theorem kw_376 : (.selects "[I" ⟨"[I", "clone", "()Ljava/lang/Object;"⟩ ⟨"java/lang/Object", "clone", "()Ljava/lang/Object;"⟩ : Cond) ∈ m_TB := m_at_in (i := 376) (by decide +kernel)
theorem kw_378 : (.classLink RJ7 317 "[I" : Cond) ∈ m_TB := m_at_in (i := 378) (by decide +kernel)
theorem kw_379 : (.methodLink RJ7 304 Lib.Math.min.name : Cond) ∈ m_TB := m_at_in (i := 379) (by decide +kernel)
theorem kw_380 : (.static Lib.Math.min.name : Cond) ∈ m_TB := m_at_in (i := 380) (by decide +kernel)
theorem kw_74 : (.initialized "java/lang/Math" : Cond) ∈ m_TB := m_at_in (i := 74) (by decide +kernel)
theorem kw_382 : (.methodLink RJ7 150 arraycopyName : Cond) ∈ m_TB := m_at_in (i := 382) (by decide +kernel)
theorem kw_384 : (.native arraycopyName : Cond) ∈ m_TB := m_at_in (i := 384) (by decide +kernel)
theorem kw_383 : (.static arraycopyName : Cond) ∈ m_TB := m_at_in (i := 383) (by decide +kernel)
theorem kw_75 : (.initialized "java/lang/System" : Cond) ∈ m_TB := m_at_in (i := 75) (by decide +kernel)
theorem kw_377 : (.castable "[I" "java/lang/Cloneable" : Cond) ∈ m_NW := m_atN_in (i := 377) (by decide +kernel)
theorem kw_171 : Cond.code Lib.Math.min.name Lib.Math.min.code 2 (some .int) ∈ m_TB := m_cw_171
set_option maxHeartbeats 4000000 in
set_option maxRecDepth 100000 in
theorem m_copy_met {l : Launch} {dC : Nat → ClassId} {dI : Nat → Nat → Nat} {dA dR : Nat → ClassId} {bs b LL : Nat} {xs : Nat → Int32} (hbb : b < bs) {a len : Nat} {n : Int32} {f : Nat → Int32} {μ : mM} (hw : m_wf μ) (ha : mF μ a = some (m_ia 0 len f)) (hlen : len ≤ 100000) (hn : x_nok n = true) : m_Met l dC dI dA dR bs b LL xs m_cp [.ref a, .int n] μ (some (.ref (mN μ))) (m_new μ n.toNatClampNeg (m_ia 0 n.toNatClampNeg (fun j => if j < len then f j else 0))) := by
  unfold m_Met
  rw [show mN (m_new μ n.toNatClampNeg (m_ia 0 n.toNatClampNeg (fun j => if j < len then f j else 0))) - mN μ = 1 by rw [m_new_N]; omega, show mS (m_new μ n.toNatClampNeg (m_ia 0 n.toNatClampNeg (fun j => if j < len then f j else 0))) - mS μ = n.toNatClampNeg by rw [m_new_S]; omega]
  obtain ⟨n1, n2⟩ := m_nok hn
  obtain ⟨l1, l2, l3⟩ := k_len hlen
  refine Met.ofW (cc := m_code m_cp) (maxL := 3) (ret := some (.array .int)) (by decide) rfl ?_
  intro p e s mid args below meth c s₁ B hml hv
  obtain ⟨rfl, hsz, ⟨hK, hN⟩, hX, hP⟩ := hv
  have hx := B.exec
  have hb := B.bytes
  have hr := B.returns
  have hts : ∀ w ∈ m_TB, w.before _ s = true := fun w h => atoms_spec (ws := m_ws m_cp) B.pre w (List.mem_cons_of_mem _ h)
  have hown : s.vm.findClass RJ7 = some mid.cls := findClass_of_methodNamed B.named
  have hlocks := B.notSynchronized
  have hA : ∀ q : Nat, s.heap.size ≤ q → (fun q : Nat => bs ≤ q) q := fun q h => by show bs ≤ q; omega
  have hS : va_S (fun q : Nat => bs ≤ q) s.heap s.heap [] := va_S.rf
  have hD := m_W_D (dA := dA) (dR := dR) (bs := bs) (b := b) μ
  have hg := m_W_get (dA := dA) (dR := dR) (bs := bs) (b := b) hw ha
  have hnm : s.vm.findClass "[I" = some (dA 0) := (hK.2 0 _ rfl).2
  have hl := lv_entry ([.ref (bs + a), .int n]) (n := 3) (Nat.le_of_ble_eq_true rfl)
  rw [lg_entry_eq]
  show W p l e _ s mid _ below meth c s.heap [] 0 0 _ (F0 mid 0 (lg_sl ([.ref (bs + a), .int n]) ++ List.replicate (3 - (lg_sl ([.ref (bs + a), .int n])).length) Slot.unset).toArray [])
  generalize (lg_sl ([.ref (bs + a), .int n]) ++ List.replicate (3 - (lg_sl ([.ref (bs + a), .int n])).length) Slot.unset).toArray = ls at hl ⊢
  have hl : lv_has ls 3 [(0, .ref (bs + a)), (1, .int n)] := hl
  have d0 : decode (m_code m_cp) 0 = .ok (.iload_n 1, 1) := by decide +kernel
  have d1 : decode (m_code m_cp) 1 = .ok (.aload_n 0, 1) := by decide +kernel
  have d2 : decode (m_code m_cp) 2 = .ok (.arraylength, 1) := by decide +kernel
  have d3 : decode (m_code m_cp) 3 = .ok (.if_icmp .ne 11, 3) := by decide +kernel
  have d6 : decode (m_code m_cp) 6 = .ok (.aload_n 0, 1) := by decide +kernel
  have d7 : decode (m_code m_cp) 7 = .ok (.invokevirtual 316, 3) := by decide +kernel
  have d10 : decode (m_code m_cp) 10 = .ok (.checkcast 317, 3) := by decide +kernel
  have d13 : decode (m_code m_cp) 13 = .ok (.areturn, 1) := by decide +kernel
  have d14 : decode (m_code m_cp) 14 = .ok (.iload_n 1, 1) := by decide +kernel
  have d15 : decode (m_code m_cp) 15 = .ok (.newarray .int, 2) := by decide +kernel
  have d17 : decode (m_code m_cp) 17 = .ok (.astore_n 2, 1) := by decide +kernel
  have d18 : decode (m_code m_cp) 18 = .ok (.aload_n 0, 1) := by decide +kernel
  have d19 : decode (m_code m_cp) 19 = .ok (.iconst 0, 1) := by decide +kernel
  have d20 : decode (m_code m_cp) 20 = .ok (.aload_n 2, 1) := by decide +kernel
  have d21 : decode (m_code m_cp) 21 = .ok (.iconst 0, 1) := by decide +kernel
  have d22 : decode (m_code m_cp) 22 = .ok (.aload_n 0, 1) := by decide +kernel
  have d23 : decode (m_code m_cp) 23 = .ok (.arraylength, 1) := by decide +kernel
  have d24 : decode (m_code m_cp) 24 = .ok (.iload_n 1, 1) := by decide +kernel
  have d25 : decode (m_code m_cp) 25 = .ok (.invokestatic 304, 3) := by decide +kernel
  have d28 : decode (m_code m_cp) 28 = .ok (.invokestatic 150, 3) := by decide +kernel
  have d31 : decode (m_code m_cp) 31 = .ok (.aload_n 2, 1) := by decide +kernel
  have d32 : decode (m_code m_cp) 32 = .ok (.areturn, 1) := by decide +kernel
  refine lv_iload_n hx hb d0 rfl (lv_at hl 1 rfl) ?_
  refine lv_aload_n hx hb d1 rfl (lv_at hl 0 rfl) ?_
  refine va_alen hx hb hK hP a 0 hg rfl rfl d2 ?_
  refine lv_icmp_ne (tgt := 14) hx hb d3 (by decide) (fun c3 => ?_) (fun c3 => ?_)
  · refine lv_iload_n hx hb d14 rfl (lv_at hl 1 rfl) ?_
    refine va_newa (atype := .int) (ty := .int) hx hb (hts (.arrayClass .int) kw_132) rfl hK hP hD hS hA (a0 := (n.toNatClampNeg, .inl (fun _ => 0))) (fun _ => rfl) n1 rfl (by simp only [componentBytes]; omega) (Nat.le_refl 1) (by show 0 + n.toNatClampNeg ≤ n.toNatClampNeg; omega) d15 (fun q cA H1 hK1 hP1 hD1 hS1 => ?_)
    have hcA : cA = dA 0 := by
      have e1 : s.vm.findClass _ = some cA := (hK1.2 6 (cA, .int) (by rfl)).2
      have e2 : s.vm.findClass _ = some (dA 0) := (hK.2 0 (dA 0, .int) rfl).2
      exact Option.some.inj (e1.symm.trans e2)
    subst hcA
    intro T hT X
    have hq : q = bs + mN μ := m_fresh hP1 hD1 hT X (by rw [hsz]; rfl)
    subst hq
    revert hT X T
    refine (?_ : W p l e _ s mid _ below meth c H1 [] (0 + 1) (0 + n.toNatClampNeg) _ _)
    have hg1 : (m_W dA dR bs b μ ++ [(bs + mN μ, .inl (dA 0, n.toNatClampNeg, .inl (fun _ => 0)))])[mN μ]? = some (bs + mN μ, .inl (dA 0, n.toNatClampNeg, .inl (fun _ => 0))) := by rw [List.getElem?_append_right (by rw [m_Wlen]; omega), m_Wlen, Nat.sub_self]; rfl
    have hg0 : (m_W dA dR bs b μ ++ [(bs + mN μ, .inl (dA 0, n.toNatClampNeg, .inl (fun _ => 0)))])[a]? = some (bs + a, .inl (dA 0, len, .inl f)) := by rw [List.getElem?_append_left (by rw [m_Wlen]; exact hw.lt ha)]; exact hg
    refine lv_astore_n (lv' := [(2, .ref (bs + mN μ)), (0, .ref (bs + a)), (1, .int n)]) hx hb d17 rfl hl (by decide) rfl (fun ls hl => ?_)
    refine lv_aload_n hx hb d18 rfl (lv_at hl 1 rfl) ?_
    refine lv_iconst (v := 0) hx hb d19 (by decide) ?_
    refine lv_aload_n hx hb d20 rfl (lv_at hl 0 rfl) ?_
    refine lv_iconst (v := 0) hx hb d21 (by decide) ?_
    refine lv_aload_n hx hb d22 rfl (lv_at hl 1 rfl) ?_
    refine va_alen hx hb hK hP1 a 0 hg0 rfl rfl d23 ?_
    refine lv_iload_n hx hb d24 rfl (lv_at hl 2 rfl) ?_
    refine va_mmin hx hb (hml.trans hl.1.symm) hown (hts _ kw_379) (hts _ kw_380) (hts _ kw_74) (hts _ kw_171) (Nat.le_of_ble_eq_true rfl) (Nat.le_of_ble_eq_true rfl) (Nat.le_refl 1) (by show 0 + n.toNatClampNeg ≤ n.toNatClampNeg; omega) d25 ?_
    have hk : (if n < Int32.ofNat len then n else Int32.ofNat len).toNatClampNeg ≤ len ∧ (if n < Int32.ofNat len then n else Int32.ofNat len).toNatClampNeg ≤ n.toNatClampNeg ∧ ¬ (if n < Int32.ofNat len then n else Int32.ofNat len) < 0 ∧ (n.toNatClampNeg ≤ (if n < Int32.ofNat len then n else Int32.ofNat len).toNatClampNeg ∨ len ≤ (if n < Int32.ofNat len then n else Int32.ofNat len).toNatClampNeg) := by
      have e1 : n.toNatClampNeg = n.toInt.toNat := rfl
      have e2 : ¬ n.toInt < 0 := fun q => n1 (Int32.lt_iff_toInt_lt.mpr q)
      split
      · rename_i h
        have := Int32.lt_iff_toInt_lt.mp h
        refine ⟨by omega, Nat.le_refl _, n1, Or.inl (Nat.le_refl _)⟩
      · rename_i h
        have : ¬ n.toInt < (Int32.ofNat len).toInt := fun q => h (Int32.lt_iff_toInt_lt.mpr q)
        refine ⟨by omega, by omega, l2, Or.inr (by omega)⟩
    generalize (if n < Int32.ofNat len then n else Int32.ofNat len) = kk at hk ⊢
    refine va_copyi (rest := []) hx hb (hml.trans hl.1.symm) hown (hts _ kw_382) (hts _ kw_384) (hts _ kw_383) (hts _ kw_75) hK hP1 hD1 hS1 a (mN μ) 0 0 hg0 hg1 rfl rfl rfl (by decide) (by decide) hk.2.2.1 (by show 0 + kk.toNatClampNeg ≤ len; omega) (by show 0 + kk.toNatClampNeg ≤ _; omega) (fun i _ => rfl) (Nat.le_of_ble_eq_true rfl) (show 0 + (nativeFrameWords "java/lang/System" "arraycopy" 5 + 11) ≤ 60 by decide +kernel) d28 (fun H2 locs2 hP2 hD2 hS2 => ?_)
    refine lv_aload_n hx hb d31 rfl (lv_at hl 0 rfl) ?_
    rw [show 0 + 1 = 1 from rfl, Nat.zero_add]
    refine W.aret (v := .ref (bs + mN μ)) hx hb hr (Or.inr ⟨_, rfl⟩) (Or.inr ⟨_, rfl⟩) (fun t ht hW => ⟨rfl, ?_, hS2.F ht⟩) hS2.2.2 d32
    rw [ht]
    refine k_fix (f := va_cpy f (fun _ => 0) 0 0 kk.toNatClampNeg) (fun j hj => ?_) ?_
    · unfold va_cpy
      by_cases hj2 : j < kk.toNatClampNeg
      · rw [if_pos ⟨Nat.zero_le _, by omega⟩, if_pos (by omega)]
        simp
      · rw [if_neg (by omega), if_neg (by omega)]
    · have e : (m_W dA dR bs b μ ++ ([(bs + mN μ, .inl (dA 0, n.toNatClampNeg, .inl (fun _ => 0)))] : va_W)).set (mN μ) (bs + mN μ, .inl (dA 0, n.toNatClampNeg, .inl (va_cpy f (fun _ => 0) 0 0 kk.toNatClampNeg))) = m_W dA dR bs b μ ++ ([(bs + mN μ, .inl (dA 0, n.toNatClampNeg, .inl (va_cpy f (fun _ => 0) 0 0 kk.toNatClampNeg)))] : va_W) := by
        rw [List.set_append_right _ _ (by rw [m_Wlen]; omega), m_Wlen, Nat.sub_self]
        rfl
      rw [← e]
      exact hP2
  · have hnl : n = Int32.ofNat len := by first | exact c3 | exact Classical.not_not.mp c3
    have hnl2 : n.toNatClampNeg = len := by rw [hnl]; exact l1
    refine lv_aload_n hx hb d6 rfl (lv_at hl 0 rfl) ?_
    refine va_clone (rest := []) hx hb (hml.trans hl.1.symm) hown (hts _ kw_372) (hts _ kw_373) (hts _ kw_374) (hts _ kw_375) (hts _ kw_376) (hN _ kw_377) hK hP hD hS hA a 0 hg rfl hnm ?_ (Nat.le_of_ble_eq_true rfl) (Nat.le_of_ble_eq_true rfl) (Nat.le_refl 1) (by show 0 + len ≤ n.toNatClampNeg; omega) d7 (fun q H1 hK1 hP1 hD1 hS1 => ?_)
    · intro i v hv
      have hlt : i < len := by
        have := (Array.getElem?_eq_some_iff.mp hv).1
        rw [show (vp_cell (dA 0) (len, .inl f)).slots.size = len from arrV_size _ _ _] at this
        exact this
      simp only [vp_cell_i, arrV, Array.getElem?_ofFn, hlt, dif_pos] at hv
      cases hv
      rfl
    · intro T hT X
      have hq : q = bs + mN μ := m_fresh hP1 hD1 hT X (by rw [hsz]; rfl)
      subst hq
      revert hT X T
      refine (?_ : W p l e _ s mid _ below meth c H1 [] (0 + 1) (0 + len) _ _)
      refine va_castA hx hb hown (hts _ kw_378) hP1 (mN μ) (by rw [List.getElem?_append_right (by rw [m_Wlen]; omega), m_Wlen, Nat.sub_self]; rfl) hnm d10 ?_
      rw [show 0 + 1 = 1 from rfl, Nat.zero_add, ← hnl2]
      refine W.aret (v := .ref (bs + mN μ)) hx hb hr (Or.inr ⟨_, rfl⟩) (Or.inr ⟨_, rfl⟩) (fun t ht hW => ⟨rfl, ?_, hS1.F ht⟩) hS1.2.2 d13
      rw [ht]
      refine k_fix (f := f) (fun j hj => ?_) (by rw [hnl2]; exact hP1)
      rw [if_pos (by omega)]
end
section
/-! the machine's run is the JVM's -/
def m_rok (m : Nat) (i : Instr) (v : Option Value) : Prop := match i, v with
  | .ireturn, some (.int x) => m_ret m = some .int ∨ (m_ret m = some .boolean ∧ x &&& 1 = x)
  | .lreturn, some (.long _) => m_ret m = some .long
  | .areturn, some (.ref _) => m_isA m = true
  | .areturn, some .null => m_isA m = true
  | .return_, none => m_ret m = none
  | _, _ => False
theorem m_ret_some {m pc len : Nat} {L st : List Value} {μ : mM} {i : Instr} {v : Option Value} (h : m_ex m pc len L st μ i = some (.inr (.inl v))) : len = 1 ∧ m_rok m i v ∧ st = v.toList := by
  obtain ⟨h1, h2, h3⟩ := m_ex_plain h rfl
  cases i with
  | ireturn =>
    refine ⟨h2, ?_⟩
    simp only [m_e0] at h3
    split at h3
    · split at h3
      · rename_i hq; cases h3; exact ⟨hq, rfl⟩
      · cases h3
    · cases h3
  | lreturn =>
    refine ⟨h2, ?_⟩
    simp only [m_e0] at h3
    split at h3
    · split at h3
      · rename_i hq; cases h3; exact ⟨hq, rfl⟩
      · cases h3
    · cases h3
  | areturn =>
    refine ⟨h2, ?_⟩
    simp only [m_e0] at h3
    split at h3
    · split at h3
      · rename_i hq; cases h3; exact ⟨hq, rfl⟩
      · cases h3
    · split at h3
      · rename_i hq; cases h3; exact ⟨hq, rfl⟩
      · cases h3
    · cases h3
  | return_ =>
    refine ⟨h2, ?_⟩
    simp only [m_e0] at h3
    split at h3
    · rename_i hq; cases h3; exact ⟨hq.2, hq.1⟩
    · cases h3
  | invokestatic j =>
    simp only [m_e0] at h3
    rw [Option.bind_eq_some_iff] at h3
    obtain ⟨q, -, h3⟩ := h3
    split at h3
    · obtain ⟨x, y, r, -, h4⟩ := p_ii_some h3
      split at h4 <;> cases h4
    · unfold x_call at h3
      split at h3 <;> cases h3
  | invokevirtual j =>
    simp only [m_e0, Option.bind_eq_some_iff] at h3
    obtain ⟨q, -, c0, -, z0, -, h3⟩ := h3
    unfold x_call at h3
    split at h3 <;> cases h3
  | invokespecial j =>
    simp only [m_e0] at h3
    rw [Option.bind_eq_some_iff] at h3
    obtain ⟨q, -, h3⟩ := h3
    cases q with
    | none =>
      obtain ⟨a, r, -, h4⟩ := p_r_some h3
      split at h4 <;> cases h4
    | some q =>
      simp only at h3
      split at h3
      · unfold x_call at h3
        split at h3 <;> cases h3
      · cases h3
  | _ => exact absurd h1 (by simp [x_plain])
/-- what a call's step says -/
def m_cok (μ : mM) (m pc : Nat) (st : List Value) (i : Instr) (q : Nat × List Value × List Value) : Prop := match i with
  | .invokestatic j => ∃ n, m_lkS (m_own m) j = some (q.1, n) ∧ q.1 ≠ m_mx ∧ x_call m q.1 n st = some (.inr (.inr q))
  | .invokevirtual j => ∃ n l a ci, m_lkV (m_own m) j = some (n, l) ∧ st[n]? = some (.ref a) ∧ m_oc μ a = some ci ∧ l.find? (fun z => z.1 == ci) = some (ci, q.1) ∧ x_call m q.1 (n + 1) st = some (.inr (.inr q))
  | .invokespecial j => ∃ n a, m_lkP (m_own m) j = some (some (q.1, n)) ∧ st[n]? = some (.ref a) ∧ x_call m q.1 (n + 1) st = some (.inr (.inr q))
  | _ => False
theorem x_call_cal {m cal n : Nat} {st : List Value} {q : Nat × List Value × List Value} (h : x_call m cal n st = some (.inr (.inr q))) : q.1 = cal := by
  unfold x_call at h
  split at h <;> cases h
  rfl
theorem m_call_some {m pc len : Nat} {L st : List Value} {μ : mM} {i : Instr} {q : Nat × List Value × List Value} (h : m_ex m pc len L st μ i = some (.inr (.inr q))) : len = 3 ∧ m_cok μ m pc st i q := by
  obtain ⟨h1, h2, h3⟩ := m_ex_plain h rfl
  cases i with
  | ireturn =>
    simp only [m_e0] at h3
    split at h3
    · split at h3 <;> cases h3
    · cases h3
  | lreturn =>
    simp only [m_e0] at h3
    split at h3
    · split at h3 <;> cases h3
    · cases h3
  | areturn =>
    simp only [m_e0] at h3
    split at h3
    · split at h3 <;> cases h3
    · split at h3 <;> cases h3
    · cases h3
  | return_ =>
    simp only [m_e0] at h3
    split at h3 <;> cases h3
  | invokestatic j =>
    refine ⟨h2, ?_⟩
    simp only [m_e0] at h3
    rw [Option.bind_eq_some_iff] at h3
    obtain ⟨z, hz, h3⟩ := h3
    split at h3
    · obtain ⟨x, y, r, -, h4⟩ := p_ii_some h3
      split at h4 <;> cases h4
    · rename_i hmx
      have hc := x_call_cal h3
      obtain ⟨z1, z2⟩ := z
      subst hc
      exact ⟨z2, hz, hmx, h3⟩
  | invokevirtual j =>
    refine ⟨h2, ?_⟩
    simp only [m_e0, Option.bind_eq_some_iff] at h3
    obtain ⟨z, hz, c0, hc0, z0, hz0, h3⟩ := h3
    have hc := x_call_cal h3
    unfold x_recv at hc0
    split at hc0
    · rename_i a ha
      have he : z0.1 = c0 := by have := List.find?_some hz0; simpa using this
      obtain ⟨z1, z2⟩ := z
      obtain ⟨y1, y2⟩ := z0
      subst hc
      cases he
      exact ⟨z1, z2, a, y1, hz, ha, hc0, hz0, h3⟩
    · cases hc0
  | invokespecial j =>
    refine ⟨h2, ?_⟩
    simp only [m_e0] at h3
    rw [Option.bind_eq_some_iff] at h3
    obtain ⟨z, hz, h3⟩ := h3
    cases z with
    | none =>
      obtain ⟨a, r, -, h4⟩ := p_r_some h3
      split at h4 <;> cases h4
    | some z =>
      simp only at h3
      split at h3
      · rename_i a ha
        have hc := x_call_cal h3
        obtain ⟨z1, z2⟩ := z
        subst hc
        exact ⟨z2, a, hz, ha, h3⟩
      · cases h3
  | _ => exact absurd h1 (by simp [x_plain])
theorem x_call_at {m cal n : Nat} {st : List Value} {q : Nat × List Value × List Value} (h : x_call m cal n st = some (.inr (.inr q))) : n ≤ st.length ∧ q.2.2.length ≤ 4 ∧ q.2.1.map (fun v => v.category) = m_wid cal ∧ (m_fr cal + 1 ≤ m_fr m ∧ 8 + (m_maxL cal + 11) + m_lo cal ≤ m_lo m) ∧ q.2.1 = (st.take n).reverse ∧ q.2.2 = st.drop n := by
  unfold x_call at h
  split at h
  · rename_i hc
    cases h
    obtain ⟨h1, h2, h3, h4⟩ := hc
    unfold m_room at h4
    simp only [Bool.and_eq_true, decide_eq_true_eq] at h4
    exact ⟨h1, h2, h3, h4, rfl, rfl⟩
  · cases h
theorem x_take {st : List Value} {n : Nat} {v : Value} (h : st[n]? = some v) : (st.take (n + 1)).reverse = v :: (st.take n).reverse ∧ st = st.take n ++ v :: st.drop (n + 1) := by
  have hl := (List.getElem?_eq_some_iff.mp h).1
  have hv := (List.getElem?_eq_some_iff.mp h).2
  refine ⟨?_, ?_⟩
  · rw [List.take_succ, h]
    simp
  · rw [← hv, List.getElem_cons_drop, List.take_append_drop]
/-- the locals at a method's entry -/
theorem m_spread_ls (bs b : Nat) : ∀ (vs : List Value), (lg_sl (vs.map (m_cv bs b))).length = (m_spread vs).length := by
  intro vs
  induction vs with
  | nil => rfl
  | cons v r ih =>
    have e : lg_sl ((v :: r).map (m_cv bs b)) = (if (m_cv bs b v).category = 2 then [Slot.val (m_cv bs b v), Slot.second] else [Slot.val (m_cv bs b v)]) ++ lg_sl (r.map (m_cv bs b)) := by simp [lg_sl]
    rw [e, List.length_append, ih, m_cv_cat, show m_spread (v :: r) = if v.category = 2 then v :: m_d :: m_spread r else v :: m_spread r from rfl]
    split
    · simp; omega
    · simp; omega
theorem m_spread_at (bs b : Nat) : ∀ (vs : List Value) (i j : Nat) (w : Value), (m_spread vs)[j]? = some w → w ≠ m_d → (i + j, m_cv bs b w) ∈ lv_args i (vs.map (m_cv bs b)) := by
  intro vs
  induction vs with
  | nil => intro i j w h; simp [m_spread] at h
  | cons v r ih =>
    intro i j w h hd
    simp only [List.map_cons, lv_args, m_cv_cat]
    unfold m_spread at h
    split at h
    · rename_i hc
      rw [if_pos hc]
      match j, h with
      | 0, h => cases h; exact List.mem_cons_self
      | 1, h => cases h; exact absurd rfl hd
      | j + 2, h =>
        refine List.mem_cons_of_mem _ ?_
        have := ih (i + 2) j w (by simpa using h) hd
        rwa [show i + (j + 2) = i + 2 + j by omega]
    · rename_i hc
      rw [if_neg hc]
      match j, h with
      | 0, h => cases h; exact List.mem_cons_self
      | j + 1, h =>
        refine List.mem_cons_of_mem _ ?_
        have := ih (i + 1) j w (by simpa using h) hd
        rwa [show i + (j + 1) = i + 1 + j by omega]
theorem m_spread_len : ∀ (vs : List Value), (m_spread vs).length = (vs.map (fun v => v.category)).sum := by
  intro vs
  induction vs with
  | nil => rfl
  | cons v r ih =>
    simp only [List.map_cons, List.sum_cons, m_spread]
    rcases lv_cat v with h | h
    · rw [if_neg (by omega)]; simp [ih, h]; omega
    · rw [if_pos h]; simp [ih, h]; omega
theorem m_spread_pos : ∀ (vs : List Value) (i j : Nat) (w : Value), (m_spread vs)[j]? = some w → w.category = 2 → i + j ∈ m_pos i (vs.map (fun v => v.category)) := by
  intro vs
  induction vs with
  | nil => intro i j w h; simp [m_spread] at h
  | cons v r ih =>
    intro i j w h hw
    simp only [List.map_cons, m_pos]
    unfold m_spread at h
    split at h
    · rename_i hc
      rw [if_pos hc]
      match j, h with
      | 0, h => exact List.mem_cons_self
      | 1, h => cases h; cases hw
      | j + 2, h =>
        refine List.mem_cons_of_mem _ ?_
        have := ih (i + 2) j w (by simpa using h) hw
        rwa [show i + (j + 2) = i + 2 + j by omega]
    · rename_i hc
      rw [if_neg hc]
      match j, h with
      | 0, h => cases h; exact absurd hw hc
      | j + 1, h =>
        have := ih (i + 1) j w (by simpa using h) hw
        rwa [show i + (j + 1) = i + 1 + j by omega]
theorem m_pad_ok {m : Nat} (hm : m < 175) {bs b : Nat} {vs : List Value} (h : vs.map (fun v => v.category) = m_wid m) : (m_pad m vs).length = m_maxL m ∧ m_lg m (m_pad m vs) ∧ m_Lr bs b m ((lg_sl (vs.map (m_cv bs b)) ++ List.replicate (m_maxL m - (lg_sl (vs.map (m_cv bs b))).length) Slot.unset).toArray) (m_pad m vs) := by
  have hr := m_okR_at hm
  unfold m_okR at hr
  simp only [Bool.and_eq_true, decide_eq_true_eq] at hr
  have hl : (m_spread vs).length ≤ m_maxL m := by rw [m_spread_len, h]; exact hr.1.1.2
  have hlen : (m_pad m vs).length = m_maxL m := by unfold m_pad; simp; omega
  have hget : ∀ (j : Nat) (w : Value), (m_pad m vs)[j]? = some w → w ≠ m_d → (m_spread vs)[j]? = some w := by
    intro j w hj hd
    unfold m_pad at hj
    by_cases hjl : j < (m_spread vs).length
    · rwa [List.getElem?_append_left hjl] at hj
    · rw [List.getElem?_append_right (by omega), List.getElem?_replicate] at hj
      split at hj
      · cases hj; exact absurd rfl hd
      · cases hj
  refine ⟨hlen, fun j w hj hw => ?_, ?_⟩
  · have hd : w ≠ m_d := fun q => by rw [q] at hw; cases hw
    have := m_spread_pos vs 0 j w (hget j w hj hd) hw
    rw [h, Nat.zero_add] at this
    exact List.all_eq_true.mp hr.2 j this
  · have he := lv_entry (vs.map (m_cv bs b)) (n := m_maxL m) (by rw [m_spread_ls]; exact hl)
    refine ⟨he.1, he.2.1, hlen, fun j w hj hd => ?_⟩
    have := m_spread_at bs b vs 0 j w (hget j w hj hd) hd
    rw [Nat.zero_add] at this
    exact he.2.2 _ this
end
section
section msound
variable {l : Launch} {dC : Nat → ClassId} {dI : Nat → Nat → Nat} {dA dR : Nat → ClassId} {bs b LL : Nat} {xs : Nat → Int32}
/-- a call: what the callee's contract gives the caller -/
theorem m_stc {p : Program} {e : Env} {R : Room} {s : State} {mid : MethodId} {args : Array Value} {below : List Frame} {meth : Method} {c : Code} {Q : State → Prop} {m pc len : Nat} {L st : List Value} {μ μ1 : mM} {cells slots : Nat} {i : Instr} {q : Nat × List Value × List Value} {v : Option Value} (C : m_Cx dC dI dA dR bs b LL xs p R s mid args meth c m) (hd : decode (m_code m) pc = .ok (i, len)) (hx0 : m_ex m pc len L st μ i = some (.inr (.inr q)))
    (hM : m_Met l dC dI dA dR bs b LL xs q.1 q.2.1 μ v μ1) (hw1 : m_wf μ1) (hn1 : mN μ ≤ mN μ1) (hs1 : mS μ ≤ mS μ1) (hsc : μ1.2.1 = μ.2.1) (hcl : cells + mN μ1 ≤ R.cells + mN μ) (hsl : slots + mS μ1 ≤ R.slots + mS μ)
    (k : m_J l dC dI dA dR bs b LL xs p e R s mid args below meth c Q m (pc + 3) L (v.toList ++ q.2.2) μ1 (cells + (mN μ1 - mN μ)) (slots + (mS μ1 - mS μ))) : m_J l dC dI dA dR bs b LL xs p e R s mid args below meth c Q m pc L st μ cells slots := by
  obtain ⟨hx, hb, hml, hown, hts, ⟨hK, hN⟩, hX, hlk, hnm, hrt, hfr, hlo, hbb, hbs, hon⟩ := C
  obtain ⟨hl3, hco⟩ := m_call_some hx0
  subst hl3
  intro I H locs ls hP hS hL T hT X
  have hsz : H.size = bs + mN μ := m_hsize hP hS hT X I.2.2.1 hbs
  revert X hT T
  refine (?_ : W p l e R s mid args below meth c H locs cells slots Q (F0 mid pc ls (st.map (m_cv bs b))))
  have hf : cells + (mN μ1 - mN μ) ≤ R.cells ∧ slots + (mS μ1 - mS μ) ≤ R.slots := ⟨by omega, by omega⟩
  have kk : ∀ (H1 : Heap) (locs1 : List Loc), va_P (dC, dI) vwCl (m_W dA dR bs b μ1) H1 → va_S (fun q => bs ≤ q) s.heap H1 locs1 → W p l e R s mid args below meth c H1 locs1 (cells + (mN μ1 - mN μ)) (slots + (mS μ1 - mS μ)) Q (F0 mid (pc + 3) ls ((v.toList ++ q.2.2).map (m_cv bs b))) := fun H1 locs1 hP1 hS1 => k ⟨hw1, hsc.trans I.2.1, by have := I.2.2.1; omega, I.2.2.2⟩ H1 locs1 ls hP1 hS1 hL
  have hpre : ∀ U : State, U.heap = H → s.WarmedH U.vm → m_Pc dC dI dA dR bs b LL xs q.2.1 μ (q.2.1.map (m_cv bs b)).toArray U := by
    intro U hU hW
    refine ⟨rfl, by rw [hU]; exact hsz, m_Kn_warm hW ⟨hK, hN⟩, ?_, by rw [hU]; exact hP⟩
    rw [hU]
    exact va_X.kept (va_X.moved hW.alike hX) (hS.2.1 b (by omega) (by show ¬ bs ≤ b; omega))
  have hpre2 : ∀ (vs : List Value), q.2.1 = vs → PreS s H (m_Pc dC dI dA dR bs b LL xs q.2.1 μ) (vs.map (m_cv bs b)) := fun vs hvs => ⟨m_Pc_blind, fun U hU hW => hvs ▸ hpre U hU hW⟩
  have hF : CallFix p mid c (m_code m) (m_maxL m) s args m_TB (m_oN (m_own m)) := ⟨hx, hb, hml, hown, hts⟩
  cases i with
  | invokestatic j =>
    obtain ⟨n, hq, hmx, hxc⟩ := hco
    obtain ⟨x1, x2, x3, x4, x5, x6⟩ := x_call_at hxc
    unfold m_lkS at hq
    cases hfd : m_LT.find? (fun q => q.1 == m_own m && q.2.1 == j) with
    | none => rw [hfd] at hq; cases hq
    | some z =>
      rw [hfd] at hq
      obtain ⟨y1, y2, y3⟩ := m_find hfd
      have h4 := List.all_eq_true.mp m_okT_all z y1
      have h5 : z.2.2.1 = (q.1, n) := Option.some.inj hq
      unfold m_okT at h4
      simp only [Bool.and_eq_true, decide_eq_true_eq] at h4
      obtain ⟨⟨⟨⟨⟨a1, a2⟩, a3⟩, a4⟩, a5⟩, a6⟩ := h4
      rw [h5] at a1 a2 a3 a4 a5 a6
      rw [y2, y3] at a6
      have hmo := m_okM_all a1
      unfold m_okM at hmo
      simp only [Bool.and_eq_true, decide_eq_true_eq] at hmo
      have hstk : st.map (m_cv bs b) = (q.2.1.map (m_cv bs b)).reverse ++ q.2.2.map (m_cv bs b) := by
        rw [x5, x6, ← List.map_reverse, List.reverse_reverse, ← List.map_append, List.take_append_drop]
      have hnl : (q.2.1.map (m_cv bs b)).length = n := by rw [x5]; simp; omega
      have hR : (m_rm q.1 (mN μ1 - mN μ) (mS μ1 - mS μ)).frames + 1 ≤ R.frames ∧ 8 + (m_maxL q.1 + 11) + (m_rm q.1 (mN μ1 - mN μ) (mS μ1 - mS μ)).locals ≤ R.locals := ⟨Nat.le_trans x4.1 hfr, Nat.le_trans x4.2 hlo⟩
      have hini := hts _ (m_at_in a5)
      have hstat := hts _ (m_at_in a4)
      have hroom := lv_room (m := mid) (pc := pc) (ls := ls) (rest := st.map (m_cv bs b)) (m_rlen (bs := bs) (b := b) x2)
      split at a6
      · refine m_cont (va_runS hF hM (va_cwS n hts (m_GI (fun w hw => ?_)) rfl rfl rfl ⟨hmo.1, hmo.2, a3⟩ hR) (hpre2 _ rfl) rfl hnl hL.1 hstk hroom hd hf) hS kk
        rcases List.mem_append.mp hw with hw | hw
        · rcases List.mem_cons.mp hw with rfl | hw
          · exact m_at_in a6
          · rcases List.mem_cons.mp hw with rfl | hw
            · exact m_at_in a4
            · rcases List.mem_cons.mp hw with rfl | hw
              · exact m_at_in a5
              · cases hw
        · exact m_ws_in a1 w hw
      · exact m_cont (va_runSN hF hM ⟨va_cnB n hts (m_GI (m_ws_in a1)) rfl rfl rfl (hN _ (m_atN_in a6)) hini ⟨hmo.1, hmo.2, a3⟩ hR, hstat, trivial⟩ (hpre2 _ rfl) rfl hnl hL.1 hstk hroom hd hf) hS kk
      · simp only [Bool.and_eq_true] at a6
        exact m_cont (x_runSU hF hM (m_GI (m_ws_in a1)) rfl rfl rfl hini (hts _ (m_at_in a6.1)) (hts _ (m_at_in a6.2)) ⟨rfl, rfl⟩ hstat ⟨hmo.1, hmo.2, a3⟩ hR (hpre2 _ rfl) rfl hnl hL.1 hstk hroom hd hf) hS kk
  | invokevirtual j =>
    obtain ⟨n, lst, a, ci, hq, hst, hoc, hfind, hxc⟩ := hco
    obtain ⟨x1, x2, x3, x4, x5, x6⟩ := x_call_at hxc
    obtain ⟨t1, t2⟩ := x_take hst
    unfold m_lkV at hq
    cases hfd : m_LV.find? (fun q => q.1 == m_own m && q.2.1 == j) with
    | none => rw [hfd] at hq; cases hq
    | some z =>
      rw [hfd] at hq
      obtain ⟨y1, y2, y3⟩ := m_find hfd
      have h4 := List.all_eq_true.mp m_okV_all z y1
      have h5 : z.2.2.1 = (n, lst) := Option.some.inj hq
      unfold m_okV at h4
      simp only [Bool.and_eq_true, decide_eq_true_eq] at h4
      obtain ⟨⟨⟨⟨a1, a2⟩, a3⟩, a4⟩, a5⟩ := h4
      rw [h5] at a2 a3 a4 a5
      rw [y2, y3] at a1
      simp only at a2 a3 a4 a5
      obtain ⟨jj, hjj⟩ := List.getElem?_of_mem (List.mem_of_find?_eq_some hfind)
      have hjl : jj < lst.length := (List.getElem?_eq_some_iff.mp hjj).1
      have hgd : lst.getD jj (0, 0) = (ci, q.1) := by rw [List.getD_eq_getElem?_getD, hjj]; rfl
      have a4 := List.all_eq_true.mp a4 jj (List.mem_range.mpr hjl)
      rw [hgd] at a4
      simp only [Bool.and_eq_true, decide_eq_true_eq] at a4
      obtain ⟨⟨⟨⟨⟨⟨b1, b2⟩, b3⟩, b4⟩, b5⟩, b6⟩, b7⟩ := a4
      have hmo := m_okM_all b2
      unfold m_okM at hmo
      simp only [Bool.and_eq_true, decide_eq_true_eq] at hmo
      have hargs : q.2.1 = .ref a :: (st.take n).reverse := x5.trans t1
      have hstk : st.map (m_cv bs b) = (((st.take n).reverse).map (m_cv bs b)).reverse ++ .ref (bs + a) :: q.2.2.map (m_cv bs b) := by
        rw [x6, ← List.map_reverse, List.reverse_reverse]
        conv => lhs; rw [t2]
        rw [List.map_append]
        rfl
      have hnl : (((st.take n).reverse).map (m_cv bs b)).length = n := by simp; omega
      have hR : (m_rm q.1 (mN μ1 - mN μ) (mS μ1 - mS μ)).frames + 1 ≤ R.frames ∧ 8 + (m_maxL q.1 + 11) + (m_rm q.1 (mN μ1 - mN μ) (mS μ1 - mS μ)).locals ≤ R.locals := ⟨Nat.le_trans x4.1 hfr, Nat.le_trans x4.2 hlo⟩
      have hroom := lv_room (m := mid) (pc := pc) (ls := ls) (rest := st.map (m_cv bs b)) (m_rlen (bs := bs) (b := b) x2)
      obtain ⟨fs, hfa⟩ : ∃ fs, mF μ a = some (m_ob ci fs) := by
        unfold m_oc at hoc
        split at hoc
        · rename_i o ho
          obtain ⟨o1, o2⟩ := o
          cases hoc
          exact ⟨o2, ho⟩
        · cases hoc
      have hpv : PreV s H (m_Rn ci) (bs + a) (m_Pc dC dI dA dR bs b LL xs q.2.1 μ) (((st.take n).reverse).map (m_cv bs b)) := ⟨m_Pc_blind, va_recv (q := (m_Rn ci, m_T ci, m_nf ci)) hK hP (m_vw b1) (m_W_get I.1 hfa), fun U hU hW => by have := hpre U hU hW; rw [hargs] at this ⊢; exact this⟩
      split at a5
      · have hy : m_nam q.1 = z.2.2.2.2.1 := by
          have := List.all_eq_true.mp a5 jj (List.mem_range.mpr hjl)
          rw [hgd] at this
          simpa using this
        rw [← hy] at a1 a2 b6
        refine m_cont (va_runV hF hM (cwV n hts (m_GI (fun w hw => ?_)) rfl rfl rfl ⟨b4, hmo.1, hmo.2, a2⟩ hR) hpv rfl hnl hL.1 hstk hroom hd hf) hS kk
        rcases List.mem_append.mp hw with hw | hw
        · rcases List.mem_cons.mp hw with rfl | hw
          · exact m_at_in a1
          · rcases List.mem_cons.mp hw with rfl | hw
            · exact m_at_in b5
            · rcases List.mem_cons.mp hw with rfl | hw
              · exact m_at_in b6
              · rcases List.mem_cons.mp hw with rfl | hw
                · exact m_at_in b7
                · cases hw
        · exact m_ws_in b2 w hw
      · simp only [Bool.and_eq_true, decide_eq_true_eq] at a5
        obtain ⟨⟨⟨c1, c2⟩, c3⟩, c4⟩ := a5
        refine m_cont (va_runU hF hM (va_cwA (C := m_Rn ci) (owner := z.2.2.2.2.1.cls) (x := z.2.2.2.2.1) n hts (m_GI (fun w hw => ?_)) rfl rfl rfl (hN _ (m_atN_in c2)) ⟨c3, c4, a2⟩ hR) hpv rfl hnl hL.1 hstk hroom hd hf) hS kk
        rcases List.mem_append.mp hw with hw | hw
        · rcases List.mem_cons.mp hw with rfl | hw
          · exact m_at_in a1
          · rcases List.mem_cons.mp hw with rfl | hw
            · exact m_at_in c1
            · rcases List.mem_cons.mp hw with rfl | hw
              · exact m_at_in b6
              · rcases List.mem_cons.mp hw with rfl | hw
                · exact m_at_in b5
                · rcases List.mem_cons.mp hw with rfl | hw
                  · rw [b4]; exact m_at_in b7
                  · cases hw
        · exact m_ws_in b2 w hw
  | invokespecial j =>
    obtain ⟨n, a, hq, hst, hxc⟩ := hco
    obtain ⟨x1, x2, x3, x4, x5, x6⟩ := x_call_at hxc
    obtain ⟨t1, t2⟩ := x_take hst
    unfold m_lkP at hq
    cases hfd : m_LP.find? (fun q => q.1 == m_own m && q.2.1 == j) with
    | none => rw [hfd] at hq; cases hq
    | some z =>
      rw [hfd] at hq
      obtain ⟨y1, y2, y3⟩ := m_find hfd
      have h4 := List.all_eq_true.mp m_okP_all z y1
      have h5 : z.2.2.1 = some (q.1, n) := Option.some.inj hq
      unfold m_okP at h4
      rw [h5, y2, y3] at h4
      simp only [Bool.and_eq_true, decide_eq_true_eq] at h4
      obtain ⟨⟨⟨⟨⟨⟨⟨a1, a2⟩, a3⟩, a4⟩, a5⟩, a6⟩, a7⟩, a8⟩ := h4
      have hmo := m_okM_all a1
      unfold m_okM at hmo
      simp only [Bool.and_eq_true, decide_eq_true_eq] at hmo
      have hargs : q.2.1 = .ref a :: (st.take n).reverse := x5.trans t1
      have hstk : st.map (m_cv bs b) = (((st.take n).reverse).map (m_cv bs b)).reverse ++ .ref (bs + a) :: q.2.2.map (m_cv bs b) := by
        rw [x6, ← List.map_reverse, List.reverse_reverse]
        conv => lhs; rw [t2]
        rw [List.map_append]
        rfl
      have hnl : (((st.take n).reverse).map (m_cv bs b)).length = n := by simp; omega
      have hR : (m_rm q.1 (mN μ1 - mN μ) (mS μ1 - mS μ)).frames + 1 ≤ R.frames ∧ 8 + (m_maxL q.1 + 11) + (m_rm q.1 (mN μ1 - mN μ) (mS μ1 - mS μ)).locals ≤ R.locals := ⟨Nat.le_trans x4.1 hfr, Nat.le_trans x4.2 hlo⟩
      have hroom := lv_room (m := mid) (pc := pc) (ls := ls) (rest := st.map (m_cv bs b)) (m_rlen (bs := bs) (b := b) x2)
      have hps : PreS s H (m_Pc dC dI dA dR bs b LL xs q.2.1 μ) (.ref (bs + a) :: ((st.take n).reverse).map (m_cv bs b)) := hpre2 (.ref a :: (st.take n).reverse) hargs
      have hcw : m_ws q.1 = Cond.code (m_nam q.1) (m_code q.1) (m_maxL q.1) none :: m_TB := by unfold m_ws m_cw; rw [a5]
      have hini := hts _ (m_at_in a7)
      have hins := hts _ (m_at_in a6)
      split at a8
      · exact m_cont (va_runI hF hM (cwI n hts (m_GI (m_ws_in a1)) hcw rfl rfl hini (hts _ (m_at_in a8)) hins a4 ⟨hmo.1, hmo.2, a3⟩ hR) hps rfl hnl hL.1 hstk hroom hd hf) hS kk
      · exact m_cont (va_runIN hF hM ⟨va_cnB n hts (m_GI (m_ws_in a1)) hcw rfl rfl (hN _ (m_atN_in a8)) hini ⟨hmo.1, hmo.2, a3⟩ hR, a4, hins⟩ hps rfl hnl hL.1 hstk hroom hd hf) hS kk
  | _ => exact hco.elim
end msound
end
section
section msound3
variable {l : Launch} {dC : Nat → ClassId} {dI : Nat → Nat → Nat} {dA dR : Nat → ClassId} {bs b LL : Nat} {xs : Nat → Int32}
def m_Rt (l : Launch) (dC : Nat → ClassId) (dI : Nat → Nat → Nat) (dA dR : Nat → ClassId) (bs b : Nat) (p : Program) (e : Env) (R : Room) (s : State) (mid : MethodId) (args : Array Value) (below : List Frame) (meth : Method) (c : Code) (Q : State → Prop) (m : Nat) (r : Option Value × mM) (TC TS : Nat) : Prop :=
  ∀ (i : Instr) (pcr : Nat) (ls : Array Slot) (H : Heap) (locs : List Loc), decode (m_code m) pcr = .ok (i, 1) → m_rok m i r.1 → va_P (dC, dI) vwCl (m_W dA dR bs b r.2) H → va_S (fun q => bs ≤ q) s.heap H locs → W p l e R s mid args below meth c H locs TC TS Q (F0 mid pcr ls (r.1.toList.map (m_cv bs b)))
theorem m_cal_ok {μ : mM} {m pc len : Nat} {L st : List Value} {i : Instr} {q : Nat × List Value × List Value} (h : m_ex m pc len L st μ i = some (.inr (.inr q))) : q.1 < 174 ∧ plainName (m_nam q.1).cls = true ∧ q.2.1.map (fun v => v.category) = m_wid q.1 := by
  obtain ⟨-, hco⟩ := m_call_some h
  cases i with
  | invokestatic j =>
    obtain ⟨n, hq, hmx, hxc⟩ := hco
    refine ⟨?_, ?_, (x_call_at hxc).2.2.1⟩ <;>
    · unfold m_lkS at hq
      cases hfd : m_LT.find? (fun q => q.1 == m_own m && q.2.1 == j) with
      | none => rw [hfd] at hq; cases hq
      | some z =>
        rw [hfd] at hq
        have h4 := List.all_eq_true.mp m_okT_all z (m_find hfd).1
        have h5 : z.2.2.1 = (q.1, n) := Option.some.inj hq
        unfold m_okT at h4
        simp only [Bool.and_eq_true, decide_eq_true_eq, h5, Bool.or_eq_true, hmx, false_or] at h4
        first | exact h4.1.1.1.1.1 | exact h4.1.1.1.1.2
  | invokevirtual j =>
    obtain ⟨n, lst, a, ci, hq, hst, hoc, hfind, hxc⟩ := hco
    refine ⟨?_, ?_, (x_call_at hxc).2.2.1⟩ <;>
    · unfold m_lkV at hq
      cases hfd : m_LV.find? (fun q => q.1 == m_own m && q.2.1 == j) with
      | none => rw [hfd] at hq; cases hq
      | some z =>
        rw [hfd] at hq
        have h4 := List.all_eq_true.mp m_okV_all z (m_find hfd).1
        have h5 : z.2.2.1 = (n, lst) := Option.some.inj hq
        unfold m_okV at h4
        simp only [Bool.and_eq_true, decide_eq_true_eq] at h4
        have a4 := h4.1.2
        rw [h5] at a4
        obtain ⟨jj, hjj⟩ := List.getElem?_of_mem (List.mem_of_find?_eq_some hfind)
        have hjl : jj < lst.length := (List.getElem?_eq_some_iff.mp hjj).1
        have hgd : lst.getD jj (0, 0) = (ci, q.1) := by rw [List.getD_eq_getElem?_getD, hjj]; rfl
        have a4 := List.all_eq_true.mp a4 jj (List.mem_range.mpr hjl)
        rw [hgd] at a4
        simp only [Bool.and_eq_true, decide_eq_true_eq] at a4
        first | exact a4.1.1.1.1.1.2 | exact a4.1.1.1.1.2
  | invokespecial j =>
    obtain ⟨n, a, hq, hst, hxc⟩ := hco
    refine ⟨?_, ?_, (x_call_at hxc).2.2.1⟩ <;>
    · unfold m_lkP at hq
      cases hfd : m_LP.find? (fun q => q.1 == m_own m && q.2.1 == j) with
      | none => rw [hfd] at hq; cases hq
      | some z =>
        rw [hfd] at hq
        have h4 := List.all_eq_true.mp m_okP_all z (m_find hfd).1
        have h5 : z.2.2.1 = some (q.1, n) := Option.some.inj hq
        unfold m_okP at h4
        rw [h5] at h4
        simp only [Bool.and_eq_true, decide_eq_true_eq] at h4
        first | exact h4.1.1.1.1.1.1.1 | exact h4.1.1.1.1.1.1.2
  | _ => exact hco.elim
set_option maxHeartbeats 4000000 in
theorem m_sound (hbb : b < bs) : ∀ (n m pc : Nat) (L st : List Value) (μ : mM) (r : Option Value × mM), m_run n m pc L st μ = some r → ∀ (p : Program) (e : Env) (R : Room) (s : State) (mid : MethodId) (args : Array Value) (below : List Frame) (meth : Method) (c : Code) (Q : State → Prop) (cells slots TC TS : Nat),
    m_Cx dC dI dA dR bs b LL xs p R s mid args meth c m → L.length = m_maxL m → cells + mN r.2 = TC + mN μ → slots + mS r.2 = TS + mS μ → TC ≤ R.cells → TS ≤ R.slots → m_Rt l dC dI dA dR bs b p e R s mid args below meth c Q m r TC TS → m_J l dC dI dA dR bs b LL xs p e R s mid args below meth c Q m pc L st μ cells slots := by
  intro n
  induction n with
  | zero => intro m pc L st μ r h; exact absurd h (by simp [m_run])
  | succ n ih =>
    intro m pc L st μ r h p e R s mid args below meth c Q cells slots TC TS C hlen hTC hTS hRc hRs hret
    unfold m_run at h
    split at h
    · cases h
    · rename_i i len hd
      split at h
      · cases h
      · rename_i z hz
        have hk := m_ex_keep hz
        have hk2 := m_run_keep _ _ _ _ _ _ _ h
        intro I
        exact m_st1 C hlen hd hz (by have := hk2.1; omega) (by have := hk2.2.1; omega) I (fun cells' slots' e1 e2 => ih _ _ _ _ _ _ h p e R s mid args below meth c Q cells' slots' TC TS C (hk.1.trans hlen) (by omega) (by omega) hRc hRs hret) I
      · rename_i v hv
        cases h
        obtain ⟨h1, h2, h3⟩ := m_ret_some hv
        subst h1
        subst h3
        have e1 : TC = cells := by simp only at hTC; omega
        have e2 : TS = slots := by simp only at hTS; omega
        subst e1; subst e2
        intro I H locs ls hP hS hL
        exact hret i pc ls H locs hd h2 hP hS
      · rename_i q hq
        rw [Option.bind_eq_some_iff] at h
        obtain ⟨w, hw, h⟩ := h
        have hk2 := m_run_keep _ _ _ _ _ _ _ h
        obtain ⟨q1, q2, q3⟩ := m_cal_ok hq
        intro I
        have hkw : mN μ ≤ mN w.2 ∧ mS μ ≤ mS w.2 ∧ w.2.2.1 = μ.2.1 ∧ (m_wf μ → m_wf w.2) := by
          split at hw
          · exact m_copy_keep hw
          · exact m_run_keep _ _ _ _ _ _ _ hw
        have hM : m_Met l dC dI dA dR bs b LL xs q.1 q.2.1 μ w.1 w.2 := by
          split at hw
          · rename_i hcp
            obtain ⟨a, n0, len0, f, h1, h2, h3, h4, h5⟩ := m_copy_some hw
            rw [hcp, h1, h5]
            exact m_copy_met hbb I.1 h2 h3 h4
          · refine Met.ofW (cc := m_code q.1) (maxL := m_maxL q.1) (ret := m_ret q.1) q2 rfl ?_
            intro p' e' s' mid' args' below' meth' c' s₁ B hml hv
            obtain ⟨rfl, hsz, hKn, hX, hP⟩ := hv
            have hx := B.exec
            have hb := B.bytes
            have hr := B.returns
            have hts : ∀ w ∈ m_TB, w.before (q.2.1.map (m_cv bs b)).toArray s' = true := fun w h => atoms_spec (ws := m_ws q.1) B.pre w (List.mem_cons_of_mem _ h)
            have hok := m_okR_at (m := q.1) (by omega)
            unfold m_okR at hok
            simp only [Bool.and_eq_true, decide_eq_true_eq] at hok
            have hown : s'.vm.findClass (m_oN (m_own q.1)) = some mid'.cls := by rw [hok.1.1.1]; exact findClass_of_methodNamed B.named
            have hlocks := B.notSynchronized
            have hnm : meth'.name = (m_nam q.1).name := (name_of_methodNamed B.named B.method).1
            obtain ⟨p1, p2, p3⟩ := m_pad_ok (m := q.1) (by omega) (bs := bs) (b := b) q3
            rw [lg_entry_eq]
            have C' : m_Cx dC dI dA dR bs b LL xs p' (headSpec (m_ws q.1) (m_rm q.1 (mN w.2 - mN μ) (mS w.2 - mS μ))).room s' mid' (q.2.1.map (m_cv bs b)).toArray meth' c' q.1 := ⟨hx, hb, hml, hown, hts, hKn, hX, hlocks, fun h => hnm.trans h, hr, Nat.le_refl _, Nat.le_refl _, hbb, by omega, hok.1.1.1⟩
            refine ih _ _ _ _ _ _ hw p' e' _ s' mid' _ below' meth' c' _ 0 0 (mN w.2 - mN μ) (mS w.2 - mS μ) C' p1 (by omega) (by omega) (Nat.le_refl _) (Nat.le_refl _) ?_ ⟨I.1, I.2.1, by omega, p2⟩ s'.heap [] _ hP va_S.rf p3
            intro i' pcr ls' H' locs' hd' hrok hP' hS'
            have hfin : ∀ t : State, t.heap = H' → s'.WarmedH t.vm → m_Qc dC dI dA dR bs b w.1 w.2 (q.2.1.map (m_cv bs b)).toArray s' (.returned (w.1.map (m_cv bs b))) t := fun t ht _ => ⟨rfl, by rw [ht]; exact hP', hS'.F ht⟩
            have hfree : ∀ q ∈ locs', (fun q : Nat => bs ≤ q) q.base := hS'.2.2
            obtain ⟨wv, wm⟩ := w
            simp only at hrok hfin ⊢
            unfold m_rok at hrok
            split at hrok
            · rename_i x
              rcases hrok with h1 | ⟨h1, h2⟩
              · exact W.iret (v := x) hx hb (hr.trans h1) hfin hfree hd'
              · exact W.zret (v := x) (ty := .boolean) hx hb (hr.trans h1) (by show Value.int (x &&& 1) = Value.int x; rw [h2]) hfin hfree hd'
            · exact W.lret hx hb (hr.trans hrok) hfin hfree hd'
            · rename_i a
              have hA : ∃ rt, m_ret q.1 = some rt ∧ ((∃ n, rt = .object n) ∨ ∃ t, rt = .array t) := by
                unfold m_isA at hrok
                split at hrok
                · rename_i nn hn; exact ⟨_, hn, Or.inl ⟨_, rfl⟩⟩
                · rename_i nn hn; exact ⟨_, hn, Or.inr ⟨_, rfl⟩⟩
                · cases hrok
              obtain ⟨rt, g1, g2⟩ := hA
              exact W.aret (v := .ref (bs + a)) hx hb (hr.trans g1) g2 (Or.inr ⟨_, rfl⟩) hfin hfree hd'
            · have hA : ∃ rt, m_ret q.1 = some rt ∧ ((∃ n, rt = .object n) ∨ ∃ t, rt = .array t) := by
                unfold m_isA at hrok
                split at hrok
                · rename_i nn hn; exact ⟨_, hn, Or.inl ⟨_, rfl⟩⟩
                · rename_i nn hn; exact ⟨_, hn, Or.inr ⟨_, rfl⟩⟩
                · cases hrok
              obtain ⟨rt, g1, g2⟩ := hA
              exact W.aret (v := .null) hx hb (hr.trans g1) g2 (Or.inl rfl) hfin hfree hd'
            · exact W.vret hx hb (hr.trans hrok) hfin hfree hd'
            · exact hrok.elim
        exact m_stc C hd hq hM (hkw.2.2.2 I.1) hkw.1 hkw.2.1 hkw.2.2.1 (by have := hk2.1; omega) (by have := hk2.2.1; omega) (ih _ _ _ _ _ _ h p e R s mid args below meth c Q _ _ TC TS C hlen (by omega) (by omega) hRc hRs hret) I
end msound3
end
section
theorem law_ok (LL : Nat) (xs : Nat → Int32) (h : LL ≤ 3584) : ∃ μ, m_G m_law 0 (m_pad m_law [m_scr]) [] ((0, 0), (LL, xs), fun _ => none) = some (some (.int 1), μ) ∧ mN μ ≤ 60000 ∧ mS μ ≤ 8922250 := by
  sorry
end
section
/-! THE CLAIM OUT OF ONE WALK OF THE LAW'S BODY. Your part is whole_start (and what it stands on); all else here is the same for every law, but numbers. -/
def R_law : String := "RowsDrawnLaw"
def lw_P (b : Addr) (xs : List Int32) (args : Array Value) (s : State) : Prop := args = #[.ref b] ∧ s.IntsAt b xs ∧ xs.length ≤ 3584 ∧ (Jvm.Cond.and given_1 narrow_1).before args s = true
def lw_Q (_ : Array Value) (s : State) (o : Outcome) (t : State) : Prop := o = .returned (some (.int 1)) ∧ Framed s o t [] 60000 8922250
def lw_Z (below : List Frame) (a : Array Value) (s : State) : State → Prop := fun t => ∃ o, t.status = .running ∧ Ended t below o ∧ lw_Q a s o t
/-- the law's own end, with 1 on the stack, nothing written that was there before, its room as the claim has it -/
theorem lw_ret {p : Program} {l : Launch} {e : Env} {s : State} {m : MethodId} {below : List Frame} {meth : Method} {c : Code} {b : Nat} (hx : p.tables.exec = Jvm.exec) (hb : c.code = code) (hr : meth.sig.returnType = ret) (hlocks : meth.locks = false) {pc : Nat} {H : Heap} {ls : Array Slot} (hdg : decode code pc = .ok (.ireturn, 1)) : W p l e room_1 s m #[Value.ref b] below meth c H [] 60000 8922250 (lw_Z below #[Value.ref b] s) (F0 m pc ls [.int 1]) := by
  intro T hT X
  obtain ⟨fs, hret, hrun, hended, hW, hframe⟩ := X.leave (v := some (.int 1)) (hlocks := hlocks) (fun h => by rw [hr] at h; cases h)
  have hmeth' : T.vm.method? m = some meth := X.method'
  refine ⟨T.setFrames fs, ?_, .returned (some (.int 1)), hrun, hended, rfl, ⟨_, rfl⟩, hW, hframe⟩
  jvm_step X.here [X.here.top, hx, hb, hdg, hmeth', hr, ret, narrow_b1]
  (try refine ⟨rfl, ?_⟩); (try refine ⟨rfl, ?_⟩)
  first | (intro acts; rw [hret _ acts rfl rfl rfl]) | rw [hret _ _ rfl rfl rfl]
  exact Steps.refl _
/-- what holds at the law's entry: the machine, the code, the tables' words (any of lw_tbl by 'hts w (by decide +kernel)'), the script of L ints xs at the cell b, what the Statement gives of the start (any of its parts by flat_of_before) -/
def lw_At (p : Program) (s : State) (m : MethodId) (meth : Method) (c : Code) (b L : Nat) (xs : Nat → Int32) : Prop :=
  p.tables.exec = Jvm.exec ∧ c.code = code ∧ meth.sig.returnType = ret ∧ c.maxLocals = 4 ∧ s.vm.findClass R_law = some m.cls ∧ (∀ w ∈ lw_tbl, w.before #[Value.ref b] s = true) ∧ va_X b L xs s s.heap ∧ b < s.heap.size ∧ meth.locks = false ∧ (Jvm.Cond.and given_1 narrow_1).before #[Value.ref b] s = true
theorem a_prim {s : State} {args : Array Value} {ty : FieldType} (h : (Cond.arrayClass ty).before args s = true) (hty : ∀ C, ty ≠ .object C) : ∃ cA, ArrOfT s cA ty ∧ va_RA s cA ty := by
  obtain ⟨cA, kA, comp, h1, h2, h3⟩ := Cond.arrayClass_spec h
  refine ⟨cA, fun n z => ⟨fun k h => (by cases h), kA, h2, comp, h3⟩, ?_⟩
  cases ty with
  | object C => exact absurd rfl (hty C)
  | _ => exact h1
theorem a_ref {s : State} {args : Array Value} {C : String} (h : (Cond.arrayOver (.object C)).before args s = true) : ∃ cA, ArrOfT s cA (.object C) ∧ va_RA s cA (.object C) := by
  obtain ⟨comp, c, k, h1, h2, h3, h4, h5⟩ := Cond.arrayOver_spec h
  exact ⟨c, fun n z => ⟨fun k h => (by cases h), k, h3, comp, h4⟩, k, comp, h3, h4, h1, h5⟩
set_option maxHeartbeats 4000000 in
set_option maxRecDepth 100000 in
theorem whole_start {p : Program} {e : Env} {s : State} {m : MethodId} {below : List Frame} {meth : Method} {c : Code} (l : Launch) {b L : Nat} {xs : Nat → Int32} (hL : L ≤ 3584) (C0 : lw_At p s m meth c b L xs) : W p l e room_1 s m #[Value.ref b] below meth c s.heap [] 0 0 (lw_Z below #[Value.ref b] s) (entryFrame m ([Value.ref b] : List Value).toArray 4) := by
  obtain ⟨hx, hb, hr, hml, hown, hts, hX, hbl, hlocks, hgv⟩ := id C0
  obtain ⟨μ', hrun, hN1, hS1⟩ := law_ok L xs hL
  obtain ⟨n, hn⟩ := m_G_iff.mp hrun
  have hTB : ∀ w ∈ m_TB, w.before #[Value.ref b] s = true := fun w h => hts w (m_TB_tbl h)
  have kn : ∀ k, ∃ (cC : ClassId) (iS : Nat → Nat), k < 10 → u_Kn s (m_Rn k) (m_T k) (m_nf k) cC iS := by
    intro k
    by_cases hk : k < 10
    · obtain ⟨cC, iS, h⟩ := u_known (C := m_Rn k) (T := m_T k) (N := m_nf k) (n := m_nf k) hTB (m_layok hk) (hTB _ (m_inst hk))
      exact ⟨cC, iS, fun _ => h⟩
    · exact ⟨0, fun _ => 0, fun h => absurd h hk⟩
  obtain ⟨a0, ha0⟩ := a_prim (hTB (.arrayClass .int) (by decide +kernel)) (fun C q => by cases q)
  obtain ⟨a1, ha1⟩ := a_prim (hTB (.arrayClass .boolean) (by decide +kernel)) (fun C q => by cases q)
  obtain ⟨a2, ha2⟩ := a_prim (hTB (.arrayClass .byte) (by decide +kernel)) (fun C q => by cases q)
  obtain ⟨r1, hr1⟩ := a_ref (hts (.arrayOver (.object RX1)) (by decide +kernel))
  obtain ⟨r3, hr3⟩ := a_ref (hts (.arrayOver (.object RX3)) (by decide +kernel))
  obtain ⟨r6, hr6⟩ := a_ref (hts (.arrayOver (.object RX7)) (by decide +kernel))
  have hKn : m_Kn (fun k => Classical.choose (kn k)) (fun k => Classical.choose (Classical.choose_spec (kn k))) (fun k => if k = 0 then a0 else if k = 1 then a1 else a2) (fun k => if k = 1 then r1 else if k = 3 then r3 else r6) s := by
    refine ⟨⟨fun k q hq => ?_, fun k q hq => ?_⟩, fun w hw => m_NW_of hw (hts w (m_NW_tbl hw))⟩
    · have hk : k < 10 := (List.getElem?_eq_some_iff.mp hq).1
      rw [m_vw hk] at hq
      cases hq
      exact Classical.choose_spec (Classical.choose_spec (kn k)) hk
    · have hk : k < 6 := (List.getElem?_eq_some_iff.mp hq).1
      rcases (show k = 0 ∨ k = 1 ∨ k = 2 ∨ k = 3 ∨ k = 4 ∨ k = 5 by omega) with rfl | rfl | rfl | rfl | rfl | rfl <;> cases hq
      · exact ha0
      · exact ha1
      · exact ha2
      · exact hr1
      · exact hr3
      · exact hr6
  have hfind : s.vm.findClass (m_oN (m_own m_law)) = some m.cls := hown
  obtain ⟨p1, p2, p3⟩ := m_pad_ok (m := m_law) (by decide) (bs := s.heap.size) (b := b) (vs := [m_scr]) (by rfl)
  rw [lg_entry_eq]
  have C' : m_Cx (fun k => Classical.choose (kn k)) (fun k => Classical.choose (Classical.choose_spec (kn k))) (fun k => if k = 0 then a0 else if k = 1 then a1 else a2) (fun k => if k = 1 then r1 else if k = 3 then r3 else r6) s.heap.size b L xs p room_1 s m #[Value.ref b] meth c m_law := ⟨hx, hb, hml, hfind, hTB, hKn, hX, hlocks, fun h => absurd h (by decide), hr, by decide, by decide, hbl, Nat.le_refl _, rfl⟩
  refine m_sound (l := l) hbl n m_law 0 (m_pad m_law [m_scr]) [] ((0, 0), (L, xs), fun _ => none) (some (.int 1), μ') hn p e room_1 s m #[Value.ref b] below meth c (lw_Z below #[Value.ref b] s) 0 0 (mN μ') (mS μ') C' p1 (by simp [mN]) (by simp [mS]) hN1 hS1 ?_ ⟨⟨fun a => by simp [mF, mN], fun a e h => by simp [mF] at h⟩, rfl, by simp [mN], p2⟩ s.heap [] _ (fun k q h => by simp [m_W, mN] at h) va_S.rf p3
  intro i pcr ls H locs hd hrok hP hS
  unfold m_rok at hrok
  split at hrok
  · rename_i heq
    cases heq
    refine va_forget (fun q hq => hS.2.2 q hq) ?_
    refine W.widen (k := 60000) (n := 8922250) hN1 hS1 ?_
    exact lw_ret hx hb hr hlocks hd
  all_goals (first | exact hrok.elim | (rename_i heq; cases heq))
set_option maxHeartbeats 4000000 in
theorem lw_walk (l : Launch) (b : Addr) (xs : List Int32) : MetFree l x (headSpec (Jvm.Cond.code x code maxLocals ret :: tables_1) room_1) (lw_P b xs) (fun _ _ _ _ _ => True) lw_Q := by
  refine MetFree.of_bodyS (code := code) (maxLocals := maxLocals) (ret := ret) (by decide) ?_ ?_
  · intro args s m h hn
    obtain ⟨meth, c, h1, h2, h3, h4, h5, h6, -, -⟩ := Cond.code_spec hn (atoms_spec (ws := Jvm.Cond.code x code maxLocals ret :: tables_1) h _ List.mem_cons_self)
    exact ⟨meth, c, h1, h2, h3, h4, h5, h6⟩
  · intro p e s m args below meth c s₁ B hml0 hP _
    obtain ⟨rfl, hx, hbd, hgv⟩ := hP
    obtain ⟨scr, harrAt, hlist, hof, hsmall⟩ := hx
    obtain ⟨hcb, hkn, -, -⟩ := State.arrayAt?_spec harrAt
    have hown : s.vm.findClass R_law = some m.cls := findClass_of_methodNamed B.named
    have hts0 : ∀ c ∈ (Jvm.Cond.code x code maxLocals ret :: tables_1), c.before #[Value.ref b] s = true := atoms_spec (ws := Jvm.Cond.code x code maxLocals ret :: tables_1) B.pre
    have hts : ∀ w ∈ lw_tbl, w.before #[Value.ref b] s = true := k2_hts_sels lw_privs (fun w hw => hts0 w (List.mem_cons_of_mem _ hw)) lw_privs_ok
    have hml : c.maxLocals = 4 := B.maxLocals_eq (hts0 _ List.mem_cons_self)
    have X₀ : Stand p l e room_1 s m #[Value.ref b] below meth c s₁ [] 0 0 := Stand.of_body B
    have hh0 : s₁.heap = s.heap := by rw [B.state]; rfl
    have hsz : scr.slots.size = xs.length := by rw [← Array.length_toList, hlist, List.length_map]
    have hval : ∀ j : Nat, j < xs.length → scr.slots[j]? = some (.int (xs.getD j 0)) := fun j hj => by
      rw [← Array.getElem?_toList, hlist]
      simp [hj]
    have hbl : b < s.heap.size := (Array.getElem?_eq_some_iff.mp hcb).1
    have hX : va_X b xs.length (fun j => xs.getD j 0) s s.heap := ⟨scr, hcb, hof, hkn, hsz, hval⟩
    have K : W p l e room_1 s m #[Value.ref b] below meth c s₁.heap [] 0 0 (lw_Z below #[Value.ref b] s) (entryFrame m ([Value.ref b] : List Value).toArray 4) := by
      rw [hh0]
      exact whole_start l hbd ⟨B.exec, B.bytes, B.returns, hml, hown, hts, hX, hbl, B.notSynchronized, hgv⟩
    obtain ⟨t, a1, o, b1, b2, b3⟩ := K s₁ rfl X₀
    exact ⟨t, o, a1, b1, b2, b3⟩
theorem lw_pre_spec {args : Array Value} {s : State} (h : (Jvm.Cond.and given_1 narrow_1).before args s = true) (hr : rest_1_c.before args s = true) : ∃ (b : Addr) (xs : List Int32), lw_P b xs args s := by
  have hs := flat_of_before _ h
  have hq := flat_of_before _ hr
  have hc : (Cond.count 1).before args s = true := hs _ (by decide +kernel)
  have harr : (Cond.arrayOf (.arg 0) .int).before args s = true := hs _ (by decide +kernel)
  have hle : (Cond.le (.length (.arg 0)) (.int 3584)).before args s = true := hs _ (by decide +kernel)
  have hlen : (Cond.isInt (.length (.arg 0))).before args s = true := hq _ (by decide +kernel)
  have hall : (Cond.all (.arg 0) (.isInt (.elem (.arg 0) (.index 0)))).before args s = true := hq _ (by decide +kernel)
  obtain ⟨b, xs, hb, hx⟩ := State.ints_of_pre rfl harr hlen hall
  have hsm : xs.length < 2 ^ 31 := hx.choose_spec.2.2.2
  have hev : (Term.length (.arg 0)).eval args s none [] s = some (.int xs.length.toInt32) := hx.length_eval hb
  have hv := Cond.le_ints hev (show (Term.int 3584).eval args s none [] s = some (.int 3584) from rfl)
  have hd : xs.length.toInt32 ≤ 3584 := by
    simpa [Cond.before, Cond.holds, hv] using hle
  have hN : xs.length ≤ 3584 := (Int32.ofNat_le_ofNat hsm (by decide)).mp (show Int32.ofNat xs.length ≤ Int32.ofNat 3584 from hd)
  exact ⟨b, xs, Cond.one_arg hc (show args[0]? = some (.ref b) from hb), hx, hN, h⟩
theorem lw_comes (l : Launch) : Comes l x (Jvm.Cond.code x code maxLocals ret :: tables_1) room_1 (fun tb e args s => Calls_1 tb e args s ∧ rest_1 tb e args s ∧ Pre_1 tb e args s)
    (fun _ _ args s o t => lw_Q args s o t) := by
  intro p e ha hc hk s m args below hf hfit hheap happ hpre
  obtain ⟨b, xs, hP⟩ := lw_pre_spec hpre.2.2 hpre.2.1
  obtain ⟨k, o, h1, h2, h3, hQ⟩ := lw_walk l b xs p e ha hc hk s m args below hf ((Spec.applies_iff_loose hf).mp happ).1 hP trivial
  exact ⟨k, o, h1, h2, h3, hQ⟩
theorem lw_frame {s t : State} {o : Outcome} {args : Array Value} (h : Framed s o t [] 60000 8922250) :
    Framed s o t (fieldLocs frame_1_writes args s ++ arrayLocs frame_1_arrays args s ++ staticLocs frame_1_statics s) 60000 8922250 := h
theorem lw_limb (L : Cond) (hL : ∀ (args : Array Value) (s t : State), L.after args s (.returned (some (.int 1))) t = true) :
    ArmFor flags0 classFile x code maxLocals ret World_1 tables_1 room_1 Calls_1 rest_1 Pre_1
      (fun tb e a s o t => postC L tb e a s o t ∧ Framed s o t (fieldLocs frame_1_writes a s ++ arrayLocs frame_1_arrays a s ++ staticLocs frame_1_statics s) 60000 8922250) := by
  intro l _ _ _ p e ha hc hk s m args below hf hfit hheap happ hpre
  obtain ⟨k, o, h1, h2, h3, rfl, hF⟩ := lw_comes l p e ha hc hk s m args below hf hfit hheap happ hpre
  exact ⟨k, _, h1, h2, h3, hL args s _, lw_frame hF⟩
theorem i_vc : Claimed_1_1 ∧ Claimed_1_2 := ⟨lw_limb limb_1_1 (fun args s t => by simp [limb_1_1, Cond.after, Cond.holds, Cond.value]), lw_limb limb_1_2 (fun args s t => Cond.after_iff.mpr (by
  first | (rw [show limb_1_2 = Cond.eq .result (.int 1) from rfl, Cond.eq_ints (x := 1) (y := 1) rfl rfl]; simp; done) | (simp [limb_1_2, Cond.value, Term.eval]; done)))⟩
end

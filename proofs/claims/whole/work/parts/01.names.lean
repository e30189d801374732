-- ===== PART A: goes FIRST, ahead of the names: the tables' words, and 'selects' of the private methods out of them =====
/-- a private method of a class that the tables say can be made, by its rows of tables_1 -/
def lw_okq (q : MethodName × Nat) : Prop := (q.1.cls ≠ "java/lang/invoke/MethodHandle" ∧ q.1.cls ≠ "java/lang/invoke/VarHandle") ∧ Cond.instantiable q.1.cls q.2 ∈ tables_1 ∧ Cond.privateMethod q.1 ∈ tables_1 ∧ Cond.instanceMethod q.1 ∈ tables_1
theorem lw_p0 : lw_okq (⟨"BecauseOf$Reader", "scanAll", "()V"⟩, 14) := ⟨⟨by decide +kernel, by decide +kernel⟩, List.mem_of_getElem? (i := 82) (by decide +kernel), List.mem_of_getElem? (i := 426) (by decide +kernel), List.mem_of_getElem? (i := 427) (by decide +kernel)⟩
theorem lw_p1 : lw_okq (⟨"BecauseOf$Reader", "scan", "(I)I"⟩, 14) := ⟨⟨by decide +kernel, by decide +kernel⟩, List.mem_of_getElem? (i := 82) (by decide +kernel), List.mem_of_getElem? (i := 430) (by decide +kernel), List.mem_of_getElem? (i := 431) (by decide +kernel)⟩
theorem lw_p2 : lw_okq (⟨"BecauseOf$Reader", "byteAt", "(I)I"⟩, 14) := ⟨⟨by decide +kernel, by decide +kernel⟩, List.mem_of_getElem? (i := 82) (by decide +kernel), List.mem_of_getElem? (i := 434) (by decide +kernel), List.mem_of_getElem? (i := 435) (by decide +kernel)⟩
theorem lw_p3 : lw_okq (⟨"BecauseOf$Reader", "wordOf", "(II)I"⟩, 14) := ⟨⟨by decide +kernel, by decide +kernel⟩, List.mem_of_getElem? (i := 82) (by decide +kernel), List.mem_of_getElem? (i := 444) (by decide +kernel), List.mem_of_getElem? (i := 445) (by decide +kernel)⟩
theorem lw_p4 : lw_okq (⟨"BecauseOf$Reader", "put", "(III)V"⟩, 14) := ⟨⟨by decide +kernel, by decide +kernel⟩, List.mem_of_getElem? (i := 82) (by decide +kernel), List.mem_of_getElem? (i := 497) (by decide +kernel), List.mem_of_getElem? (i := 498) (by decide +kernel)⟩
theorem lw_p5 : lw_okq (⟨"BecauseOf$Reader", "scanNumber", "(I)I"⟩, 14) := ⟨⟨by decide +kernel, by decide +kernel⟩, List.mem_of_getElem? (i := 82) (by decide +kernel), List.mem_of_getElem? (i := 501) (by decide +kernel), List.mem_of_getElem? (i := 502) (by decide +kernel)⟩
theorem lw_p6 : lw_okq (⟨"BecauseOf$Reader", "readClause", "(LBecauseOf$View;)V"⟩, 14) := ⟨⟨by decide +kernel, by decide +kernel⟩, List.mem_of_getElem? (i := 82) (by decide +kernel), List.mem_of_getElem? (i := 534) (by decide +kernel), List.mem_of_getElem? (i := 535) (by decide +kernel)⟩
theorem lw_p7 : lw_okq (⟨"BecauseOf$Reader", "kind", "()I"⟩, 14) := ⟨⟨by decide +kernel, by decide +kernel⟩, List.mem_of_getElem? (i := 82) (by decide +kernel), List.mem_of_getElem? (i := 538) (by decide +kernel), List.mem_of_getElem? (i := 539) (by decide +kernel)⟩
theorem lw_p8 : lw_okq (⟨"BecauseOf$Reader", "blame", "(I)V"⟩, 14) := ⟨⟨by decide +kernel, by decide +kernel⟩, List.mem_of_getElem? (i := 82) (by decide +kernel), List.mem_of_getElem? (i := 542) (by decide +kernel), List.mem_of_getElem? (i := 543) (by decide +kernel)⟩
theorem lw_p9 : lw_okq (⟨"BecauseOf$Reader", "readTest", "()LBecauseOf$Test;"⟩, 14) := ⟨⟨by decide +kernel, by decide +kernel⟩, List.mem_of_getElem? (i := 82) (by decide +kernel), List.mem_of_getElem? (i := 546) (by decide +kernel), List.mem_of_getElem? (i := 547) (by decide +kernel)⟩
theorem lw_p10 : lw_okq (⟨"BecauseOf$Reader", "open", "(I)V"⟩, 14) := ⟨⟨by decide +kernel, by decide +kernel⟩, List.mem_of_getElem? (i := 82) (by decide +kernel), List.mem_of_getElem? (i := 550) (by decide +kernel), List.mem_of_getElem? (i := 551) (by decide +kernel)⟩
theorem lw_p11 : lw_okq (⟨"BecauseOf$Reader", "await", "(I)V"⟩, 14) := ⟨⟨by decide +kernel, by decide +kernel⟩, List.mem_of_getElem? (i := 82) (by decide +kernel), List.mem_of_getElem? (i := 554) (by decide +kernel), List.mem_of_getElem? (i := 555) (by decide +kernel)⟩
theorem lw_p12 : lw_okq (⟨"BecauseOf$Reader", "readComparison", "()V"⟩, 14) := ⟨⟨by decide +kernel, by decide +kernel⟩, List.mem_of_getElem? (i := 82) (by decide +kernel), List.mem_of_getElem? (i := 558) (by decide +kernel), List.mem_of_getElem? (i := 559) (by decide +kernel)⟩
theorem lw_p13 : lw_okq (⟨"BecauseOf$Reader", "readSum", "()V"⟩, 14) := ⟨⟨by decide +kernel, by decide +kernel⟩, List.mem_of_getElem? (i := 82) (by decide +kernel), List.mem_of_getElem? (i := 562) (by decide +kernel), List.mem_of_getElem? (i := 563) (by decide +kernel)⟩
theorem lw_p14 : lw_okq (⟨"BecauseOf$Reader", "readValue", "(I)V"⟩, 14) := ⟨⟨by decide +kernel, by decide +kernel⟩, List.mem_of_getElem? (i := 82) (by decide +kernel), List.mem_of_getElem? (i := 566) (by decide +kernel), List.mem_of_getElem? (i := 567) (by decide +kernel)⟩
theorem lw_p15 : lw_okq (⟨"BecauseOf$Reader", "value", "()I"⟩, 14) := ⟨⟨by decide +kernel, by decide +kernel⟩, List.mem_of_getElem? (i := 82) (by decide +kernel), List.mem_of_getElem? (i := 570) (by decide +kernel), List.mem_of_getElem? (i := 571) (by decide +kernel)⟩
def lw_privs_1 : List (MethodName × Nat) := [(⟨"BecauseOf$Reader", "scanAll", "()V"⟩, 14), (⟨"BecauseOf$Reader", "scan", "(I)I"⟩, 14), (⟨"BecauseOf$Reader", "byteAt", "(I)I"⟩, 14), (⟨"BecauseOf$Reader", "wordOf", "(II)I"⟩, 14), (⟨"BecauseOf$Reader", "put", "(III)V"⟩, 14), (⟨"BecauseOf$Reader", "scanNumber", "(I)I"⟩, 14), (⟨"BecauseOf$Reader", "readClause", "(LBecauseOf$View;)V"⟩, 14), (⟨"BecauseOf$Reader", "kind", "()I"⟩, 14), (⟨"BecauseOf$Reader", "blame", "(I)V"⟩, 14), (⟨"BecauseOf$Reader", "readTest", "()LBecauseOf$Test;"⟩, 14), (⟨"BecauseOf$Reader", "open", "(I)V"⟩, 14), (⟨"BecauseOf$Reader", "await", "(I)V"⟩, 14), (⟨"BecauseOf$Reader", "readComparison", "()V"⟩, 14), (⟨"BecauseOf$Reader", "readSum", "()V"⟩, 14), (⟨"BecauseOf$Reader", "readValue", "(I)V"⟩, 14), (⟨"BecauseOf$Reader", "value", "()I"⟩, 14)]
theorem lw_r1 : ∀ q ∈ lw_privs_1, lw_okq q := List.forall_mem_cons.mpr ⟨lw_p0, List.forall_mem_cons.mpr ⟨lw_p1, List.forall_mem_cons.mpr ⟨lw_p2, List.forall_mem_cons.mpr ⟨lw_p3, List.forall_mem_cons.mpr ⟨lw_p4, List.forall_mem_cons.mpr ⟨lw_p5, List.forall_mem_cons.mpr ⟨lw_p6, List.forall_mem_cons.mpr ⟨lw_p7, List.forall_mem_cons.mpr ⟨lw_p8, List.forall_mem_cons.mpr ⟨lw_p9, List.forall_mem_cons.mpr ⟨lw_p10, List.forall_mem_cons.mpr ⟨lw_p11, List.forall_mem_cons.mpr ⟨lw_p12, List.forall_mem_cons.mpr ⟨lw_p13, List.forall_mem_cons.mpr ⟨lw_p14, List.forall_mem_cons.mpr ⟨lw_p15, fun _ h => absurd h List.not_mem_nil⟩⟩⟩⟩⟩⟩⟩⟩⟩⟩⟩⟩⟩⟩⟩⟩
theorem lw_p16 : lw_okq (⟨"BecauseOf$Reader", "addStep", "(II)V"⟩, 14) := ⟨⟨by decide +kernel, by decide +kernel⟩, List.mem_of_getElem? (i := 82) (by decide +kernel), List.mem_of_getElem? (i := 574) (by decide +kernel), List.mem_of_getElem? (i := 575) (by decide +kernel)⟩
theorem lw_p17 : lw_okq (⟨"BecauseOf$Reader", "readSign", "()I"⟩, 14) := ⟨⟨by decide +kernel, by decide +kernel⟩, List.mem_of_getElem? (i := 82) (by decide +kernel), List.mem_of_getElem? (i := 580) (by decide +kernel), List.mem_of_getElem? (i := 581) (by decide +kernel)⟩
theorem lw_p18 : lw_okq (⟨"BecauseOf$Reader", "readBehindFact", "()Z"⟩, 14) := ⟨⟨by decide +kernel, by decide +kernel⟩, List.mem_of_getElem? (i := 82) (by decide +kernel), List.mem_of_getElem? (i := 584) (by decide +kernel), List.mem_of_getElem? (i := 585) (by decide +kernel)⟩
theorem lw_p19 : lw_okq (⟨"BecauseOf$Reader", "settle", "(I)V"⟩, 14) := ⟨⟨by decide +kernel, by decide +kernel⟩, List.mem_of_getElem? (i := 82) (by decide +kernel), List.mem_of_getElem? (i := 588) (by decide +kernel), List.mem_of_getElem? (i := 589) (by decide +kernel)⟩
theorem lw_p20 : lw_okq (⟨"BecauseOf$Reader", "readNumber", "(II)I"⟩, 14) := ⟨⟨by decide +kernel, by decide +kernel⟩, List.mem_of_getElem? (i := 82) (by decide +kernel), List.mem_of_getElem? (i := 622) (by decide +kernel), List.mem_of_getElem? (i := 623) (by decide +kernel)⟩
theorem lw_p21 : lw_okq (⟨"BecauseOf$Reader", "readMark", "(I)I"⟩, 14) := ⟨⟨by decide +kernel, by decide +kernel⟩, List.mem_of_getElem? (i := 82) (by decide +kernel), List.mem_of_getElem? (i := 626) (by decide +kernel), List.mem_of_getElem? (i := 627) (by decide +kernel)⟩
theorem lw_p22 : lw_okq (⟨"BecauseOf", "ruleAt", "(I)LBecauseOf$Test;"⟩, 16) := ⟨⟨by decide +kernel, by decide +kernel⟩, List.mem_of_getElem? (i := 23) (by decide +kernel), List.mem_of_getElem? (i := 647) (by decide +kernel), List.mem_of_getElem? (i := 648) (by decide +kernel)⟩
theorem lw_p23 : lw_okq (⟨"BecauseOf", "lookBy", "(I)Z"⟩, 16) := ⟨⟨by decide +kernel, by decide +kernel⟩, List.mem_of_getElem? (i := 23) (by decide +kernel), List.mem_of_getElem? (i := 680) (by decide +kernel), List.mem_of_getElem? (i := 681) (by decide +kernel)⟩
theorem lw_p24 : lw_okq (⟨"BecauseOf", "viewAt", "(I)LBecauseOf$View;"⟩, 16) := ⟨⟨by decide +kernel, by decide +kernel⟩, List.mem_of_getElem? (i := 23) (by decide +kernel), List.mem_of_getElem? (i := 684) (by decide +kernel), List.mem_of_getElem? (i := 685) (by decide +kernel)⟩
theorem lw_p25 : lw_okq (⟨"BecauseOf$Taken", "isAmong", "(LBecauseOf$Test;I)Z"⟩, 9) := ⟨⟨by decide +kernel, by decide +kernel⟩, List.mem_of_getElem? (i := 137) (by decide +kernel), List.mem_of_getElem? (i := 696) (by decide +kernel), List.mem_of_getElem? (i := 697) (by decide +kernel)⟩
theorem lw_p26 : lw_okq (⟨"BecauseOf", "setGap", "(IIII)V"⟩, 16) := ⟨⟨by decide +kernel, by decide +kernel⟩, List.mem_of_getElem? (i := 23) (by decide +kernel), List.mem_of_getElem? (i := 725) (by decide +kernel), List.mem_of_getElem? (i := 726) (by decide +kernel)⟩
theorem lw_p27 : lw_okq (⟨"BecauseOf$Taken", "groupWith", "(I)I"⟩, 9) := ⟨⟨by decide +kernel, by decide +kernel⟩, List.mem_of_getElem? (i := 137) (by decide +kernel), List.mem_of_getElem? (i := 766) (by decide +kernel), List.mem_of_getElem? (i := 767) (by decide +kernel)⟩
theorem lw_p28 : lw_okq (⟨"BecauseOf$Taken", "tallyUp", "(III)V"⟩, 9) := ⟨⟨by decide +kernel, by decide +kernel⟩, List.mem_of_getElem? (i := 137) (by decide +kernel), List.mem_of_getElem? (i := 770) (by decide +kernel), List.mem_of_getElem? (i := 771) (by decide +kernel)⟩
theorem lw_p29 : lw_okq (⟨"BecauseOf$Taken", "isMixed", "(I)Z"⟩, 9) := ⟨⟨by decide +kernel, by decide +kernel⟩, List.mem_of_getElem? (i := 137) (by decide +kernel), List.mem_of_getElem? (i := 782) (by decide +kernel), List.mem_of_getElem? (i := 783) (by decide +kernel)⟩
theorem lw_p30 : lw_okq (⟨"BecauseOf$Taken", "lackOf", "(I)I"⟩, 9) := ⟨⟨by decide +kernel, by decide +kernel⟩, List.mem_of_getElem? (i := 137) (by decide +kernel), List.mem_of_getElem? (i := 796) (by decide +kernel), List.mem_of_getElem? (i := 797) (by decide +kernel)⟩
theorem lw_p31 : lw_okq (⟨"BecauseOf$Pairing", "addRow", "(I)V"⟩, 11) := ⟨⟨by decide +kernel, by decide +kernel⟩, List.mem_of_getElem? (i := 190) (by decide +kernel), List.mem_of_getElem? (i := 833) (by decide +kernel), List.mem_of_getElem? (i := 834) (by decide +kernel)⟩
def lw_privs_2 : List (MethodName × Nat) := [(⟨"BecauseOf$Reader", "addStep", "(II)V"⟩, 14), (⟨"BecauseOf$Reader", "readSign", "()I"⟩, 14), (⟨"BecauseOf$Reader", "readBehindFact", "()Z"⟩, 14), (⟨"BecauseOf$Reader", "settle", "(I)V"⟩, 14), (⟨"BecauseOf$Reader", "readNumber", "(II)I"⟩, 14), (⟨"BecauseOf$Reader", "readMark", "(I)I"⟩, 14), (⟨"BecauseOf", "ruleAt", "(I)LBecauseOf$Test;"⟩, 16), (⟨"BecauseOf", "lookBy", "(I)Z"⟩, 16), (⟨"BecauseOf", "viewAt", "(I)LBecauseOf$View;"⟩, 16), (⟨"BecauseOf$Taken", "isAmong", "(LBecauseOf$Test;I)Z"⟩, 9), (⟨"BecauseOf", "setGap", "(IIII)V"⟩, 16), (⟨"BecauseOf$Taken", "groupWith", "(I)I"⟩, 9), (⟨"BecauseOf$Taken", "tallyUp", "(III)V"⟩, 9), (⟨"BecauseOf$Taken", "isMixed", "(I)Z"⟩, 9), (⟨"BecauseOf$Taken", "lackOf", "(I)I"⟩, 9), (⟨"BecauseOf$Pairing", "addRow", "(I)V"⟩, 11)]
theorem lw_r2 : ∀ q ∈ lw_privs_2, lw_okq q := List.forall_mem_cons.mpr ⟨lw_p16, List.forall_mem_cons.mpr ⟨lw_p17, List.forall_mem_cons.mpr ⟨lw_p18, List.forall_mem_cons.mpr ⟨lw_p19, List.forall_mem_cons.mpr ⟨lw_p20, List.forall_mem_cons.mpr ⟨lw_p21, List.forall_mem_cons.mpr ⟨lw_p22, List.forall_mem_cons.mpr ⟨lw_p23, List.forall_mem_cons.mpr ⟨lw_p24, List.forall_mem_cons.mpr ⟨lw_p25, List.forall_mem_cons.mpr ⟨lw_p26, List.forall_mem_cons.mpr ⟨lw_p27, List.forall_mem_cons.mpr ⟨lw_p28, List.forall_mem_cons.mpr ⟨lw_p29, List.forall_mem_cons.mpr ⟨lw_p30, List.forall_mem_cons.mpr ⟨lw_p31, fun _ h => absurd h List.not_mem_nil⟩⟩⟩⟩⟩⟩⟩⟩⟩⟩⟩⟩⟩⟩⟩⟩
theorem lw_p32 : lw_okq (⟨"BecauseOf$Pairing", "isTaken", "(I)Z"⟩, 11) := ⟨⟨by decide +kernel, by decide +kernel⟩, List.mem_of_getElem? (i := 190) (by decide +kernel), List.mem_of_getElem? (i := 838) (by decide +kernel), List.mem_of_getElem? (i := 839) (by decide +kernel)⟩
theorem lw_p33 : lw_okq (⟨"BecauseOf$Pairing", "reachNext", "(I)I"⟩, 11) := ⟨⟨by decide +kernel, by decide +kernel⟩, List.mem_of_getElem? (i := 190) (by decide +kernel), List.mem_of_getElem? (i := 842) (by decide +kernel), List.mem_of_getElem? (i := 843) (by decide +kernel)⟩
theorem lw_p34 : lw_okq (⟨"BecauseOf$Pairing", "rowAt", "(I)I"⟩, 11) := ⟨⟨by decide +kernel, by decide +kernel⟩, List.mem_of_getElem? (i := 190) (by decide +kernel), List.mem_of_getElem? (i := 846) (by decide +kernel), List.mem_of_getElem? (i := 847) (by decide +kernel)⟩
theorem lw_p35 : lw_okq (⟨"BecauseOf$Pairing", "addUp", "()V"⟩, 11) := ⟨⟨by decide +kernel, by decide +kernel⟩, List.mem_of_getElem? (i := 190) (by decide +kernel), List.mem_of_getElem? (i := 850) (by decide +kernel), List.mem_of_getElem? (i := 851) (by decide +kernel)⟩
theorem lw_p36 : lw_okq (⟨"BecauseOf", "officesAreEven", "()Z"⟩, 16) := ⟨⟨by decide +kernel, by decide +kernel⟩, List.mem_of_getElem? (i := 23) (by decide +kernel), List.mem_of_getElem? (i := 948) (by decide +kernel), List.mem_of_getElem? (i := 949) (by decide +kernel)⟩
theorem lw_p37 : lw_okq (⟨"BecauseOf", "setSplit", "(I)V"⟩, 16) := ⟨⟨by decide +kernel, by decide +kernel⟩, List.mem_of_getElem? (i := 23) (by decide +kernel), List.mem_of_getElem? (i := 970) (by decide +kernel), List.mem_of_getElem? (i := 971) (by decide +kernel)⟩
theorem lw_p38 : lw_okq (⟨"BecauseOf$Taken", "isJudged", "(II)Z"⟩, 9) := ⟨⟨by decide +kernel, by decide +kernel⟩, List.mem_of_getElem? (i := 137) (by decide +kernel), List.mem_of_getElem? (i := 979) (by decide +kernel), List.mem_of_getElem? (i := 980) (by decide +kernel)⟩
theorem lw_p39 : lw_okq (⟨"BecauseOf$Bars", "metOf", "(III)I"⟩, 2) := ⟨⟨by decide +kernel, by decide +kernel⟩, List.mem_of_getElem? (i := 232) (by decide +kernel), List.mem_of_getElem? (i := 1016) (by decide +kernel), List.mem_of_getElem? (i := 1017) (by decide +kernel)⟩
theorem lw_p40 : lw_okq (⟨"BecauseOf$Bars", "goodAt", "(II)I"⟩, 2) := ⟨⟨by decide +kernel, by decide +kernel⟩, List.mem_of_getElem? (i := 232) (by decide +kernel), List.mem_of_getElem? (i := 1020) (by decide +kernel), List.mem_of_getElem? (i := 1021) (by decide +kernel)⟩
theorem lw_p41 : lw_okq (⟨"BecauseOf$Bars", "badAt", "(II)I"⟩, 2) := ⟨⟨by decide +kernel, by decide +kernel⟩, List.mem_of_getElem? (i := 232) (by decide +kernel), List.mem_of_getElem? (i := 1024) (by decide +kernel), List.mem_of_getElem? (i := 1025) (by decide +kernel)⟩
theorem lw_p42 : lw_okq (⟨"BecauseOf$Bars", "judgedOf", "(III)I"⟩, 2) := ⟨⟨by decide +kernel, by decide +kernel⟩, List.mem_of_getElem? (i := 232) (by decide +kernel), List.mem_of_getElem? (i := 1028) (by decide +kernel), List.mem_of_getElem? (i := 1029) (by decide +kernel)⟩
theorem lw_p43 : lw_okq (⟨"BecauseOf$ShortRules", "putMark", "(III)V"⟩, 6) := ⟨⟨by decide +kernel, by decide +kernel⟩, List.mem_of_getElem? (i := 245) (by decide +kernel), List.mem_of_getElem? (i := 1055) (by decide +kernel), List.mem_of_getElem? (i := 1056) (by decide +kernel)⟩
theorem lw_p44 : lw_okq (⟨"BecauseOf$ShortRules", "put", "(II)V"⟩, 6) := ⟨⟨by decide +kernel, by decide +kernel⟩, List.mem_of_getElem? (i := 245) (by decide +kernel), List.mem_of_getElem? (i := 1059) (by decide +kernel), List.mem_of_getElem? (i := 1060) (by decide +kernel)⟩
theorem lw_p45 : lw_okq (⟨"BecauseOf$ShortRules", "offer", "(II)V"⟩, 6) := ⟨⟨by decide +kernel, by decide +kernel⟩, List.mem_of_getElem? (i := 245) (by decide +kernel), List.mem_of_getElem? (i := 1069) (by decide +kernel), List.mem_of_getElem? (i := 1070) (by decide +kernel)⟩
theorem lw_p46 : lw_okq (⟨"BecauseOf$ShortRules", "wrongOf", "(II)I"⟩, 6) := ⟨⟨by decide +kernel, by decide +kernel⟩, List.mem_of_getElem? (i := 245) (by decide +kernel), List.mem_of_getElem? (i := 1073) (by decide +kernel), List.mem_of_getElem? (i := 1074) (by decide +kernel)⟩
theorem lw_p47 : lw_okq (⟨"BecauseOf$ShortRules", "trueOf", "(II)J"⟩, 6) := ⟨⟨by decide +kernel, by decide +kernel⟩, List.mem_of_getElem? (i := 245) (by decide +kernel), List.mem_of_getElem? (i := 1077) (by decide +kernel), List.mem_of_getElem? (i := 1078) (by decide +kernel)⟩
def lw_privs_3 : List (MethodName × Nat) := [(⟨"BecauseOf$Pairing", "isTaken", "(I)Z"⟩, 11), (⟨"BecauseOf$Pairing", "reachNext", "(I)I"⟩, 11), (⟨"BecauseOf$Pairing", "rowAt", "(I)I"⟩, 11), (⟨"BecauseOf$Pairing", "addUp", "()V"⟩, 11), (⟨"BecauseOf", "officesAreEven", "()Z"⟩, 16), (⟨"BecauseOf", "setSplit", "(I)V"⟩, 16), (⟨"BecauseOf$Taken", "isJudged", "(II)Z"⟩, 9), (⟨"BecauseOf$Bars", "metOf", "(III)I"⟩, 2), (⟨"BecauseOf$Bars", "goodAt", "(II)I"⟩, 2), (⟨"BecauseOf$Bars", "badAt", "(II)I"⟩, 2), (⟨"BecauseOf$Bars", "judgedOf", "(III)I"⟩, 2), (⟨"BecauseOf$ShortRules", "putMark", "(III)V"⟩, 6), (⟨"BecauseOf$ShortRules", "put", "(II)V"⟩, 6), (⟨"BecauseOf$ShortRules", "offer", "(II)V"⟩, 6), (⟨"BecauseOf$ShortRules", "wrongOf", "(II)I"⟩, 6), (⟨"BecauseOf$ShortRules", "trueOf", "(II)J"⟩, 6)]
theorem lw_r3 : ∀ q ∈ lw_privs_3, lw_okq q := List.forall_mem_cons.mpr ⟨lw_p32, List.forall_mem_cons.mpr ⟨lw_p33, List.forall_mem_cons.mpr ⟨lw_p34, List.forall_mem_cons.mpr ⟨lw_p35, List.forall_mem_cons.mpr ⟨lw_p36, List.forall_mem_cons.mpr ⟨lw_p37, List.forall_mem_cons.mpr ⟨lw_p38, List.forall_mem_cons.mpr ⟨lw_p39, List.forall_mem_cons.mpr ⟨lw_p40, List.forall_mem_cons.mpr ⟨lw_p41, List.forall_mem_cons.mpr ⟨lw_p42, List.forall_mem_cons.mpr ⟨lw_p43, List.forall_mem_cons.mpr ⟨lw_p44, List.forall_mem_cons.mpr ⟨lw_p45, List.forall_mem_cons.mpr ⟨lw_p46, List.forall_mem_cons.mpr ⟨lw_p47, fun _ h => absurd h List.not_mem_nil⟩⟩⟩⟩⟩⟩⟩⟩⟩⟩⟩⟩⟩⟩⟩⟩
theorem lw_p48 : lw_okq (⟨"BecauseOf$Change", "keep", "(IIIII)V"⟩, 5) := ⟨⟨by decide +kernel, by decide +kernel⟩, List.mem_of_getElem? (i := 274) (by decide +kernel), List.mem_of_getElem? (i := 1108) (by decide +kernel), List.mem_of_getElem? (i := 1109) (by decide +kernel)⟩
theorem lw_p49 : lw_okq (⟨"BecauseOf$Change", "seekOne", "(LBecauseOf$Test;[II)V"⟩, 5) := ⟨⟨by decide +kernel, by decide +kernel⟩, List.mem_of_getElem? (i := 274) (by decide +kernel), List.mem_of_getElem? (i := 1113) (by decide +kernel), List.mem_of_getElem? (i := 1114) (by decide +kernel)⟩
theorem lw_p50 : lw_okq (⟨"BecauseOf$Change", "seekTwo", "(LBecauseOf$Test;[II)V"⟩, 5) := ⟨⟨by decide +kernel, by decide +kernel⟩, List.mem_of_getElem? (i := 274) (by decide +kernel), List.mem_of_getElem? (i := 1124) (by decide +kernel), List.mem_of_getElem? (i := 1125) (by decide +kernel)⟩
theorem lw_p51 : lw_okq (⟨"BecauseOf$Change", "seekSecond", "(LBecauseOf$Test;[III)V"⟩, 5) := ⟨⟨by decide +kernel, by decide +kernel⟩, List.mem_of_getElem? (i := 274) (by decide +kernel), List.mem_of_getElem? (i := 1128) (by decide +kernel), List.mem_of_getElem? (i := 1129) (by decide +kernel)⟩
theorem lw_p52 : lw_okq (⟨"BecauseOfModel", "isCase", "(I)Z"⟩, 57) := ⟨⟨by decide +kernel, by decide +kernel⟩, List.mem_of_getElem? (i := 1158) (by decide +kernel), List.mem_of_getElem? (i := 1350) (by decide +kernel), List.mem_of_getElem? (i := 1351) (by decide +kernel)⟩
theorem lw_p53 : lw_okq (⟨"BecauseOfModel", "four", "(I)V"⟩, 57) := ⟨⟨by decide +kernel, by decide +kernel⟩, List.mem_of_getElem? (i := 1158) (by decide +kernel), List.mem_of_getElem? (i := 1364) (by decide +kernel), List.mem_of_getElem? (i := 1365) (by decide +kernel)⟩
theorem lw_p54 : lw_okq (⟨"BecauseOfModel", "begins", "(I)V"⟩, 57) := ⟨⟨by decide +kernel, by decide +kernel⟩, List.mem_of_getElem? (i := 1158) (by decide +kernel), List.mem_of_getElem? (i := 1376) (by decide +kernel), List.mem_of_getElem? (i := 1377) (by decide +kernel)⟩
theorem lw_p55 : lw_okq (⟨"BecauseOfModel", "clauseOf", "(I)Z"⟩, 57) := ⟨⟨by decide +kernel, by decide +kernel⟩, List.mem_of_getElem? (i := 1158) (by decide +kernel), List.mem_of_getElem? (i := 1380) (by decide +kernel), List.mem_of_getElem? (i := 1381) (by decide +kernel)⟩
theorem lw_p56 : lw_okq (⟨"BecauseOfModel", "see", "()I"⟩, 57) := ⟨⟨by decide +kernel, by decide +kernel⟩, List.mem_of_getElem? (i := 1158) (by decide +kernel), List.mem_of_getElem? (i := 1384) (by decide +kernel), List.mem_of_getElem? (i := 1385) (by decide +kernel)⟩
theorem lw_p57 : lw_okq (⟨"BecauseOfModel", "isWord", "(J)Z"⟩, 57) := ⟨⟨by decide +kernel, by decide +kernel⟩, List.mem_of_getElem? (i := 1158) (by decide +kernel), List.mem_of_getElem? (i := 1389) (by decide +kernel), List.mem_of_getElem? (i := 1390) (by decide +kernel)⟩
theorem lw_p58 : lw_okq (⟨"BecauseOfModel", "isLetter", "(I)Z"⟩, 57) := ⟨⟨by decide +kernel, by decide +kernel⟩, List.mem_of_getElem? (i := 1158) (by decide +kernel), List.mem_of_getElem? (i := 1393) (by decide +kernel), List.mem_of_getElem? (i := 1394) (by decide +kernel)⟩
theorem lw_p59 : lw_okq (⟨"BecauseOfModel", "isDigit", "(I)Z"⟩, 57) := ⟨⟨by decide +kernel, by decide +kernel⟩, List.mem_of_getElem? (i := 1158) (by decide +kernel), List.mem_of_getElem? (i := 1397) (by decide +kernel), List.mem_of_getElem? (i := 1398) (by decide +kernel)⟩
theorem lw_p60 : lw_okq (⟨"BecauseOfModel", "fails", "(II)Z"⟩, 57) := ⟨⟨by decide +kernel, by decide +kernel⟩, List.mem_of_getElem? (i := 1158) (by decide +kernel), List.mem_of_getElem? (i := 1401) (by decide +kernel), List.mem_of_getElem? (i := 1402) (by decide +kernel)⟩
theorem lw_p61 : lw_okq (⟨"BecauseOfModel", "passWord", "()V"⟩, 57) := ⟨⟨by decide +kernel, by decide +kernel⟩, List.mem_of_getElem? (i := 1158) (by decide +kernel), List.mem_of_getElem? (i := 1405) (by decide +kernel), List.mem_of_getElem? (i := 1406) (by decide +kernel)⟩
theorem lw_p62 : lw_okq (⟨"BecauseOfModel", "test", "()Z"⟩, 57) := ⟨⟨by decide +kernel, by decide +kernel⟩, List.mem_of_getElem? (i := 1158) (by decide +kernel), List.mem_of_getElem? (i := 1409) (by decide +kernel), List.mem_of_getElem? (i := 1410) (by decide +kernel)⟩
theorem lw_p63 : lw_okq (⟨"BecauseOfModel", "fact", "()Z"⟩, 57) := ⟨⟨by decide +kernel, by decide +kernel⟩, List.mem_of_getElem? (i := 1158) (by decide +kernel), List.mem_of_getElem? (i := 1413) (by decide +kernel), List.mem_of_getElem? (i := 1414) (by decide +kernel)⟩
def lw_privs_4 : List (MethodName × Nat) := [(⟨"BecauseOf$Change", "keep", "(IIIII)V"⟩, 5), (⟨"BecauseOf$Change", "seekOne", "(LBecauseOf$Test;[II)V"⟩, 5), (⟨"BecauseOf$Change", "seekTwo", "(LBecauseOf$Test;[II)V"⟩, 5), (⟨"BecauseOf$Change", "seekSecond", "(LBecauseOf$Test;[III)V"⟩, 5), (⟨"BecauseOfModel", "isCase", "(I)Z"⟩, 57), (⟨"BecauseOfModel", "four", "(I)V"⟩, 57), (⟨"BecauseOfModel", "begins", "(I)V"⟩, 57), (⟨"BecauseOfModel", "clauseOf", "(I)Z"⟩, 57), (⟨"BecauseOfModel", "see", "()I"⟩, 57), (⟨"BecauseOfModel", "isWord", "(J)Z"⟩, 57), (⟨"BecauseOfModel", "isLetter", "(I)Z"⟩, 57), (⟨"BecauseOfModel", "isDigit", "(I)Z"⟩, 57), (⟨"BecauseOfModel", "fails", "(II)Z"⟩, 57), (⟨"BecauseOfModel", "passWord", "()V"⟩, 57), (⟨"BecauseOfModel", "test", "()Z"⟩, 57), (⟨"BecauseOfModel", "fact", "()Z"⟩, 57)]
theorem lw_r4 : ∀ q ∈ lw_privs_4, lw_okq q := List.forall_mem_cons.mpr ⟨lw_p48, List.forall_mem_cons.mpr ⟨lw_p49, List.forall_mem_cons.mpr ⟨lw_p50, List.forall_mem_cons.mpr ⟨lw_p51, List.forall_mem_cons.mpr ⟨lw_p52, List.forall_mem_cons.mpr ⟨lw_p53, List.forall_mem_cons.mpr ⟨lw_p54, List.forall_mem_cons.mpr ⟨lw_p55, List.forall_mem_cons.mpr ⟨lw_p56, List.forall_mem_cons.mpr ⟨lw_p57, List.forall_mem_cons.mpr ⟨lw_p58, List.forall_mem_cons.mpr ⟨lw_p59, List.forall_mem_cons.mpr ⟨lw_p60, List.forall_mem_cons.mpr ⟨lw_p61, List.forall_mem_cons.mpr ⟨lw_p62, List.forall_mem_cons.mpr ⟨lw_p63, fun _ h => absurd h List.not_mem_nil⟩⟩⟩⟩⟩⟩⟩⟩⟩⟩⟩⟩⟩⟩⟩⟩
theorem lw_p64 : lw_okq (⟨"BecauseOfModel", "opens", "(I)Z"⟩, 57) := ⟨⟨by decide +kernel, by decide +kernel⟩, List.mem_of_getElem? (i := 1158) (by decide +kernel), List.mem_of_getElem? (i := 1418) (by decide +kernel), List.mem_of_getElem? (i := 1419) (by decide +kernel)⟩
theorem lw_p65 : lw_okq (⟨"BecauseOfModel", "compare", "()Z"⟩, 57) := ⟨⟨by decide +kernel, by decide +kernel⟩, List.mem_of_getElem? (i := 1158) (by decide +kernel), List.mem_of_getElem? (i := 1422) (by decide +kernel), List.mem_of_getElem? (i := 1423) (by decide +kernel)⟩
theorem lw_p66 : lw_okq (⟨"BecauseOfModel", "sum", "()Z"⟩, 57) := ⟨⟨by decide +kernel, by decide +kernel⟩, List.mem_of_getElem? (i := 1158) (by decide +kernel), List.mem_of_getElem? (i := 1426) (by decide +kernel), List.mem_of_getElem? (i := 1427) (by decide +kernel)⟩
theorem lw_p67 : lw_okq (⟨"BecauseOfModel", "value", "()Z"⟩, 57) := ⟨⟨by decide +kernel, by decide +kernel⟩, List.mem_of_getElem? (i := 1158) (by decide +kernel), List.mem_of_getElem? (i := 1430) (by decide +kernel), List.mem_of_getElem? (i := 1431) (by decide +kernel)⟩
theorem lw_p68 : lw_okq (⟨"BecauseOfModel", "number", "(II)Z"⟩, 57) := ⟨⟨by decide +kernel, by decide +kernel⟩, List.mem_of_getElem? (i := 1158) (by decide +kernel), List.mem_of_getElem? (i := 1434) (by decide +kernel), List.mem_of_getElem? (i := 1435) (by decide +kernel)⟩
theorem lw_p69 : lw_okq (⟨"BecauseOfModel", "makes", "(I)Z"⟩, 57) := ⟨⟨by decide +kernel, by decide +kernel⟩, List.mem_of_getElem? (i := 1158) (by decide +kernel), List.mem_of_getElem? (i := 1438) (by decide +kernel), List.mem_of_getElem? (i := 1439) (by decide +kernel)⟩
theorem lw_p70 : lw_okq (⟨"BecauseOfModel", "puts", "(II)V"⟩, 57) := ⟨⟨by decide +kernel, by decide +kernel⟩, List.mem_of_getElem? (i := 1158) (by decide +kernel), List.mem_of_getElem? (i := 1442) (by decide +kernel), List.mem_of_getElem? (i := 1443) (by decide +kernel)⟩
theorem lw_p71 : lw_okq (⟨"BecauseOfModel", "wordHere", "()I"⟩, 57) := ⟨⟨by decide +kernel, by decide +kernel⟩, List.mem_of_getElem? (i := 1158) (by decide +kernel), List.mem_of_getElem? (i := 1446) (by decide +kernel), List.mem_of_getElem? (i := 1447) (by decide +kernel)⟩
theorem lw_p72 : lw_okq (⟨"BecauseOfModel", "closes", "()V"⟩, 57) := ⟨⟨by decide +kernel, by decide +kernel⟩, List.mem_of_getElem? (i := 1158) (by decide +kernel), List.mem_of_getElem? (i := 1456) (by decide +kernel), List.mem_of_getElem? (i := 1457) (by decide +kernel)⟩
theorem lw_p73 : lw_okq (⟨"BecauseOfModel", "settles", "(I)V"⟩, 57) := ⟨⟨by decide +kernel, by decide +kernel⟩, List.mem_of_getElem? (i := 1158) (by decide +kernel), List.mem_of_getElem? (i := 1460) (by decide +kernel), List.mem_of_getElem? (i := 1461) (by decide +kernel)⟩
theorem lw_p74 : lw_okq (⟨"BecauseOfModel", "isInside", "()Z"⟩, 57) := ⟨⟨by decide +kernel, by decide +kernel⟩, List.mem_of_getElem? (i := 1158) (by decide +kernel), List.mem_of_getElem? (i := 1464) (by decide +kernel), List.mem_of_getElem? (i := 1465) (by decide +kernel)⟩
theorem lw_p75 : lw_okq (⟨"BecauseOfModel", "isTrue", "(II)Z"⟩, 57) := ⟨⟨by decide +kernel, by decide +kernel⟩, List.mem_of_getElem? (i := 1158) (by decide +kernel), List.mem_of_getElem? (i := 1481) (by decide +kernel), List.mem_of_getElem? (i := 1482) (by decide +kernel)⟩
theorem lw_p76 : lw_okq (⟨"BecauseOfModel", "push", "(I)V"⟩, 57) := ⟨⟨by decide +kernel, by decide +kernel⟩, List.mem_of_getElem? (i := 1158) (by decide +kernel), List.mem_of_getElem? (i := 1485) (by decide +kernel), List.mem_of_getElem? (i := 1486) (by decide +kernel)⟩
theorem lw_p77 : lw_okq (⟨"BecauseOfModel", "wordOf", "(II)I"⟩, 57) := ⟨⟨by decide +kernel, by decide +kernel⟩, List.mem_of_getElem? (i := 1158) (by decide +kernel), List.mem_of_getElem? (i := 1489) (by decide +kernel), List.mem_of_getElem? (i := 1490) (by decide +kernel)⟩
theorem lw_p78 : lw_okq (⟨"BecauseOfModel", "markOf", "(II)I"⟩, 57) := ⟨⟨by decide +kernel, by decide +kernel⟩, List.mem_of_getElem? (i := 1158) (by decide +kernel), List.mem_of_getElem? (i := 1493) (by decide +kernel), List.mem_of_getElem? (i := 1494) (by decide +kernel)⟩
theorem lw_p79 : lw_okq (⟨"BecauseOfModel", "pop", "()I"⟩, 57) := ⟨⟨by decide +kernel, by decide +kernel⟩, List.mem_of_getElem? (i := 1158) (by decide +kernel), List.mem_of_getElem? (i := 1497) (by decide +kernel), List.mem_of_getElem? (i := 1498) (by decide +kernel)⟩
def lw_privs_5 : List (MethodName × Nat) := [(⟨"BecauseOfModel", "opens", "(I)Z"⟩, 57), (⟨"BecauseOfModel", "compare", "()Z"⟩, 57), (⟨"BecauseOfModel", "sum", "()Z"⟩, 57), (⟨"BecauseOfModel", "value", "()Z"⟩, 57), (⟨"BecauseOfModel", "number", "(II)Z"⟩, 57), (⟨"BecauseOfModel", "makes", "(I)Z"⟩, 57), (⟨"BecauseOfModel", "puts", "(II)V"⟩, 57), (⟨"BecauseOfModel", "wordHere", "()I"⟩, 57), (⟨"BecauseOfModel", "closes", "()V"⟩, 57), (⟨"BecauseOfModel", "settles", "(I)V"⟩, 57), (⟨"BecauseOfModel", "isInside", "()Z"⟩, 57), (⟨"BecauseOfModel", "isTrue", "(II)Z"⟩, 57), (⟨"BecauseOfModel", "push", "(I)V"⟩, 57), (⟨"BecauseOfModel", "wordOf", "(II)I"⟩, 57), (⟨"BecauseOfModel", "markOf", "(II)I"⟩, 57), (⟨"BecauseOfModel", "pop", "()I"⟩, 57)]
theorem lw_r5 : ∀ q ∈ lw_privs_5, lw_okq q := List.forall_mem_cons.mpr ⟨lw_p64, List.forall_mem_cons.mpr ⟨lw_p65, List.forall_mem_cons.mpr ⟨lw_p66, List.forall_mem_cons.mpr ⟨lw_p67, List.forall_mem_cons.mpr ⟨lw_p68, List.forall_mem_cons.mpr ⟨lw_p69, List.forall_mem_cons.mpr ⟨lw_p70, List.forall_mem_cons.mpr ⟨lw_p71, List.forall_mem_cons.mpr ⟨lw_p72, List.forall_mem_cons.mpr ⟨lw_p73, List.forall_mem_cons.mpr ⟨lw_p74, List.forall_mem_cons.mpr ⟨lw_p75, List.forall_mem_cons.mpr ⟨lw_p76, List.forall_mem_cons.mpr ⟨lw_p77, List.forall_mem_cons.mpr ⟨lw_p78, List.forall_mem_cons.mpr ⟨lw_p79, fun _ h => absurd h List.not_mem_nil⟩⟩⟩⟩⟩⟩⟩⟩⟩⟩⟩⟩⟩⟩⟩⟩
theorem lw_p80 : lw_okq (⟨"BecauseOfModel", "isView", "(I)Z"⟩, 57) := ⟨⟨by decide +kernel, by decide +kernel⟩, List.mem_of_getElem? (i := 1158) (by decide +kernel), List.mem_of_getElem? (i := 1508) (by decide +kernel), List.mem_of_getElem? (i := 1509) (by decide +kernel)⟩
theorem lw_p81 : lw_okq (⟨"BecauseOfModel", "gathers", "(II)V"⟩, 57) := ⟨⟨by decide +kernel, by decide +kernel⟩, List.mem_of_getElem? (i := 1158) (by decide +kernel), List.mem_of_getElem? (i := 1512) (by decide +kernel), List.mem_of_getElem? (i := 1513) (by decide +kernel)⟩
theorem lw_p82 : lw_okq (⟨"BecauseOfModel", "lacksMark", "(I)Z"⟩, 57) := ⟨⟨by decide +kernel, by decide +kernel⟩, List.mem_of_getElem? (i := 1158) (by decide +kernel), List.mem_of_getElem? (i := 1516) (by decide +kernel), List.mem_of_getElem? (i := 1517) (by decide +kernel)⟩
theorem lw_p83 : lw_okq (⟨"BecauseOfModel", "trait", "(I)I"⟩, 57) := ⟨⟨by decide +kernel, by decide +kernel⟩, List.mem_of_getElem? (i := 1158) (by decide +kernel), List.mem_of_getElem? (i := 1520) (by decide +kernel), List.mem_of_getElem? (i := 1521) (by decide +kernel)⟩
theorem lw_p84 : lw_okq (⟨"BecauseOfModel", "isLet", "(I)Z"⟩, 57) := ⟨⟨by decide +kernel, by decide +kernel⟩, List.mem_of_getElem? (i := 1158) (by decide +kernel), List.mem_of_getElem? (i := 1524) (by decide +kernel), List.mem_of_getElem? (i := 1525) (by decide +kernel)⟩
theorem lw_p85 : lw_okq (⟨"BecauseOfModel", "less", "(JJJJ)V"⟩, 57) := ⟨⟨by decide +kernel, by decide +kernel⟩, List.mem_of_getElem? (i := 1158) (by decide +kernel), List.mem_of_getElem? (i := 1536) (by decide +kernel), List.mem_of_getElem? (i := 1537) (by decide +kernel)⟩
theorem lw_p86 : lw_okq (⟨"BecauseOfModel", "choose", "(II)J"⟩, 57) := ⟨⟨by decide +kernel, by decide +kernel⟩, List.mem_of_getElem? (i := 1158) (by decide +kernel), List.mem_of_getElem? (i := 1547) (by decide +kernel), List.mem_of_getElem? (i := 1548) (by decide +kernel)⟩
theorem lw_p87 : lw_okq (⟨"BecauseOfModel", "parts", "()V"⟩, 57) := ⟨⟨by decide +kernel, by decide +kernel⟩, List.mem_of_getElem? (i := 1158) (by decide +kernel), List.mem_of_getElem? (i := 1555) (by decide +kernel), List.mem_of_getElem? (i := 1556) (by decide +kernel)⟩
theorem lw_p88 : lw_okq (⟨"BecauseOfModel", "areAlike", "(II)Z"⟩, 57) := ⟨⟨by decide +kernel, by decide +kernel⟩, List.mem_of_getElem? (i := 1158) (by decide +kernel), List.mem_of_getElem? (i := 1559) (by decide +kernel), List.mem_of_getElem? (i := 1560) (by decide +kernel)⟩
theorem lw_p89 : lw_okq (⟨"BecauseOfModel", "hasBoth", "(I)Z"⟩, 57) := ⟨⟨by decide +kernel, by decide +kernel⟩, List.mem_of_getElem? (i := 1158) (by decide +kernel), List.mem_of_getElem? (i := 1564) (by decide +kernel), List.mem_of_getElem? (i := 1565) (by decide +kernel)⟩
theorem lw_p90 : lw_okq (⟨"BecauseOfModel", "would", "(I)I"⟩, 57) := ⟨⟨by decide +kernel, by decide +kernel⟩, List.mem_of_getElem? (i := 1158) (by decide +kernel), List.mem_of_getElem? (i := 1568) (by decide +kernel), List.mem_of_getElem? (i := 1569) (by decide +kernel)⟩
theorem lw_p91 : lw_okq (⟨"BecauseOfModel", "lacking", "()I"⟩, 57) := ⟨⟨by decide +kernel, by decide +kernel⟩, List.mem_of_getElem? (i := 1158) (by decide +kernel), List.mem_of_getElem? (i := 1577) (by decide +kernel), List.mem_of_getElem? (i := 1578) (by decide +kernel)⟩
theorem lw_p92 : lw_okq (⟨"BecauseOfModel", "distance", "(III)I"⟩, 57) := ⟨⟨by decide +kernel, by decide +kernel⟩, List.mem_of_getElem? (i := 1158) (by decide +kernel), List.mem_of_getElem? (i := 1594) (by decide +kernel), List.mem_of_getElem? (i := 1595) (by decide +kernel)⟩
theorem lw_p93 : lw_okq (⟨"BecauseOfModel", "counts", "(I)Z"⟩, 57) := ⟨⟨by decide +kernel, by decide +kernel⟩, List.mem_of_getElem? (i := 1158) (by decide +kernel), List.mem_of_getElem? (i := 1609) (by decide +kernel), List.mem_of_getElem? (i := 1610) (by decide +kernel)⟩
theorem lw_p94 : lw_okq (⟨"BecauseOfModel", "weighed", "(I)J"⟩, 57) := ⟨⟨by decide +kernel, by decide +kernel⟩, List.mem_of_getElem? (i := 1158) (by decide +kernel), List.mem_of_getElem? (i := 1622) (by decide +kernel), List.mem_of_getElem? (i := 1623) (by decide +kernel)⟩
theorem lw_p95 : lw_okq (⟨"BecauseOfModel", "areMissing", "(II)Z"⟩, 57) := ⟨⟨by decide +kernel, by decide +kernel⟩, List.mem_of_getElem? (i := 1158) (by decide +kernel), List.mem_of_getElem? (i := 1637) (by decide +kernel), List.mem_of_getElem? (i := 1638) (by decide +kernel)⟩
def lw_privs_6 : List (MethodName × Nat) := [(⟨"BecauseOfModel", "isView", "(I)Z"⟩, 57), (⟨"BecauseOfModel", "gathers", "(II)V"⟩, 57), (⟨"BecauseOfModel", "lacksMark", "(I)Z"⟩, 57), (⟨"BecauseOfModel", "trait", "(I)I"⟩, 57), (⟨"BecauseOfModel", "isLet", "(I)Z"⟩, 57), (⟨"BecauseOfModel", "less", "(JJJJ)V"⟩, 57), (⟨"BecauseOfModel", "choose", "(II)J"⟩, 57), (⟨"BecauseOfModel", "parts", "()V"⟩, 57), (⟨"BecauseOfModel", "areAlike", "(II)Z"⟩, 57), (⟨"BecauseOfModel", "hasBoth", "(I)Z"⟩, 57), (⟨"BecauseOfModel", "would", "(I)I"⟩, 57), (⟨"BecauseOfModel", "lacking", "()I"⟩, 57), (⟨"BecauseOfModel", "distance", "(III)I"⟩, 57), (⟨"BecauseOfModel", "counts", "(I)Z"⟩, 57), (⟨"BecauseOfModel", "weighed", "(I)J"⟩, 57), (⟨"BecauseOfModel", "areMissing", "(II)Z"⟩, 57)]
theorem lw_r6 : ∀ q ∈ lw_privs_6, lw_okq q := List.forall_mem_cons.mpr ⟨lw_p80, List.forall_mem_cons.mpr ⟨lw_p81, List.forall_mem_cons.mpr ⟨lw_p82, List.forall_mem_cons.mpr ⟨lw_p83, List.forall_mem_cons.mpr ⟨lw_p84, List.forall_mem_cons.mpr ⟨lw_p85, List.forall_mem_cons.mpr ⟨lw_p86, List.forall_mem_cons.mpr ⟨lw_p87, List.forall_mem_cons.mpr ⟨lw_p88, List.forall_mem_cons.mpr ⟨lw_p89, List.forall_mem_cons.mpr ⟨lw_p90, List.forall_mem_cons.mpr ⟨lw_p91, List.forall_mem_cons.mpr ⟨lw_p92, List.forall_mem_cons.mpr ⟨lw_p93, List.forall_mem_cons.mpr ⟨lw_p94, List.forall_mem_cons.mpr ⟨lw_p95, fun _ h => absurd h List.not_mem_nil⟩⟩⟩⟩⟩⟩⟩⟩⟩⟩⟩⟩⟩⟩⟩⟩
theorem lw_p96 : lw_okq (⟨"BecauseOfModel", "least", "(II)V"⟩, 57) := ⟨⟨by decide +kernel, by decide +kernel⟩, List.mem_of_getElem? (i := 1158) (by decide +kernel), List.mem_of_getElem? (i := 1644) (by decide +kernel), List.mem_of_getElem? (i := 1645) (by decide +kernel)⟩
theorem lw_p97 : lw_okq (⟨"BecauseOfModel", "greatest", "(II)V"⟩, 57) := ⟨⟨by decide +kernel, by decide +kernel⟩, List.mem_of_getElem? (i := 1158) (by decide +kernel), List.mem_of_getElem? (i := 1648) (by decide +kernel), List.mem_of_getElem? (i := 1649) (by decide +kernel)⟩
theorem lw_p98 : lw_okq (⟨"BecauseOfModel", "looks", "(II)V"⟩, 57) := ⟨⟨by decide +kernel, by decide +kernel⟩, List.mem_of_getElem? (i := 1158) (by decide +kernel), List.mem_of_getElem? (i := 1662) (by decide +kernel), List.mem_of_getElem? (i := 1663) (by decide +kernel)⟩
theorem lw_p99 : lw_okq (⟨"BecauseOfModel", "isEven", "()Z"⟩, 57) := ⟨⟨by decide +kernel, by decide +kernel⟩, List.mem_of_getElem? (i := 1158) (by decide +kernel), List.mem_of_getElem? (i := 1670) (by decide +kernel), List.mem_of_getElem? (i := 1671) (by decide +kernel)⟩
theorem lw_p100 : lw_okq (⟨"BecauseOfModel", "asWas", "()V"⟩, 57) := ⟨⟨by decide +kernel, by decide +kernel⟩, List.mem_of_getElem? (i := 1158) (by decide +kernel), List.mem_of_getElem? (i := 1684) (by decide +kernel), List.mem_of_getElem? (i := 1685) (by decide +kernel)⟩
theorem lw_p101 : lw_okq (⟨"BecauseOfModel", "splits", "(I)V"⟩, 57) := ⟨⟨by decide +kernel, by decide +kernel⟩, List.mem_of_getElem? (i := 1158) (by decide +kernel), List.mem_of_getElem? (i := 1688) (by decide +kernel), List.mem_of_getElem? (i := 1689) (by decide +kernel)⟩
theorem lw_p102 : lw_okq (⟨"BecauseOfModel", "isWithin", "(I)Z"⟩, 57) := ⟨⟨by decide +kernel, by decide +kernel⟩, List.mem_of_getElem? (i := 1158) (by decide +kernel), List.mem_of_getElem? (i := 1696) (by decide +kernel), List.mem_of_getElem? (i := 1697) (by decide +kernel)⟩
theorem lw_p103 : lw_okq (⟨"BecauseOfModel", "bars", "(III)I"⟩, 57) := ⟨⟨by decide +kernel, by decide +kernel⟩, List.mem_of_getElem? (i := 1158) (by decide +kernel), List.mem_of_getElem? (i := 1704) (by decide +kernel), List.mem_of_getElem? (i := 1705) (by decide +kernel)⟩
theorem lw_p104 : lw_okq (⟨"BecauseOfModel", "shortest", "(I)V"⟩, 57) := ⟨⟨by decide +kernel, by decide +kernel⟩, List.mem_of_getElem? (i := 1158) (by decide +kernel), List.mem_of_getElem? (i := 1717) (by decide +kernel), List.mem_of_getElem? (i := 1718) (by decide +kernel)⟩
theorem lw_p105 : lw_okq (⟨"BecauseOfModel", "tries", "(II)V"⟩, 57) := ⟨⟨by decide +kernel, by decide +kernel⟩, List.mem_of_getElem? (i := 1158) (by decide +kernel), List.mem_of_getElem? (i := 1721) (by decide +kernel), List.mem_of_getElem? (i := 1722) (by decide +kernel)⟩
theorem lw_p106 : lw_okq (⟨"BecauseOfModel", "wrong", "(II)I"⟩, 57) := ⟨⟨by decide +kernel, by decide +kernel⟩, List.mem_of_getElem? (i := 1158) (by decide +kernel), List.mem_of_getElem? (i := 1725) (by decide +kernel), List.mem_of_getElem? (i := 1726) (by decide +kernel)⟩
theorem lw_p107 : lw_okq (⟨"BecauseOfModel", "isSo", "(II)Z"⟩, 57) := ⟨⟨by decide +kernel, by decide +kernel⟩, List.mem_of_getElem? (i := 1158) (by decide +kernel), List.mem_of_getElem? (i := 1729) (by decide +kernel), List.mem_of_getElem? (i := 1730) (by decide +kernel)⟩
theorem lw_p108 : lw_okq (⟨"BecauseOfModel", "keeps", "(IIIIII)V"⟩, 57) := ⟨⟨by decide +kernel, by decide +kernel⟩, List.mem_of_getElem? (i := 1158) (by decide +kernel), List.mem_of_getElem? (i := 1745) (by decide +kernel), List.mem_of_getElem? (i := 1746) (by decide +kernel)⟩
theorem lw_p109 : lw_okq (⟨"BecauseOfModel", "isTold", "(IIIIII)Z"⟩, 57) := ⟨⟨by decide +kernel, by decide +kernel⟩, List.mem_of_getElem? (i := 1158) (by decide +kernel), List.mem_of_getElem? (i := 1749) (by decide +kernel), List.mem_of_getElem? (i := 1750) (by decide +kernel)⟩
theorem lw_p110 : lw_okq (⟨"BecauseOfModel", "steps", "(III)I"⟩, 57) := ⟨⟨by decide +kernel, by decide +kernel⟩, List.mem_of_getElem? (i := 1158) (by decide +kernel), List.mem_of_getElem? (i := 1753) (by decide +kernel), List.mem_of_getElem? (i := 1754) (by decide +kernel)⟩
theorem lw_p111 : lw_okq (⟨"BecauseOfModel", "second", "(IIII)V"⟩, 57) := ⟨⟨by decide +kernel, by decide +kernel⟩, List.mem_of_getElem? (i := 1158) (by decide +kernel), List.mem_of_getElem? (i := 1757) (by decide +kernel), List.mem_of_getElem? (i := 1758) (by decide +kernel)⟩
def lw_privs_7 : List (MethodName × Nat) := [(⟨"BecauseOfModel", "least", "(II)V"⟩, 57), (⟨"BecauseOfModel", "greatest", "(II)V"⟩, 57), (⟨"BecauseOfModel", "looks", "(II)V"⟩, 57), (⟨"BecauseOfModel", "isEven", "()Z"⟩, 57), (⟨"BecauseOfModel", "asWas", "()V"⟩, 57), (⟨"BecauseOfModel", "splits", "(I)V"⟩, 57), (⟨"BecauseOfModel", "isWithin", "(I)Z"⟩, 57), (⟨"BecauseOfModel", "bars", "(III)I"⟩, 57), (⟨"BecauseOfModel", "shortest", "(I)V"⟩, 57), (⟨"BecauseOfModel", "tries", "(II)V"⟩, 57), (⟨"BecauseOfModel", "wrong", "(II)I"⟩, 57), (⟨"BecauseOfModel", "isSo", "(II)Z"⟩, 57), (⟨"BecauseOfModel", "keeps", "(IIIIII)V"⟩, 57), (⟨"BecauseOfModel", "isTold", "(IIIIII)Z"⟩, 57), (⟨"BecauseOfModel", "steps", "(III)I"⟩, 57), (⟨"BecauseOfModel", "second", "(IIII)V"⟩, 57)]
theorem lw_r7 : ∀ q ∈ lw_privs_7, lw_okq q := List.forall_mem_cons.mpr ⟨lw_p96, List.forall_mem_cons.mpr ⟨lw_p97, List.forall_mem_cons.mpr ⟨lw_p98, List.forall_mem_cons.mpr ⟨lw_p99, List.forall_mem_cons.mpr ⟨lw_p100, List.forall_mem_cons.mpr ⟨lw_p101, List.forall_mem_cons.mpr ⟨lw_p102, List.forall_mem_cons.mpr ⟨lw_p103, List.forall_mem_cons.mpr ⟨lw_p104, List.forall_mem_cons.mpr ⟨lw_p105, List.forall_mem_cons.mpr ⟨lw_p106, List.forall_mem_cons.mpr ⟨lw_p107, List.forall_mem_cons.mpr ⟨lw_p108, List.forall_mem_cons.mpr ⟨lw_p109, List.forall_mem_cons.mpr ⟨lw_p110, List.forall_mem_cons.mpr ⟨lw_p111, fun _ h => absurd h List.not_mem_nil⟩⟩⟩⟩⟩⟩⟩⟩⟩⟩⟩⟩⟩⟩⟩⟩
def lw_privs : List (MethodName × Nat) := lw_privs_1 ++ (lw_privs_2 ++ (lw_privs_3 ++ (lw_privs_4 ++ (lw_privs_5 ++ (lw_privs_6 ++ (lw_privs_7))))))
def lw_tbl : List Cond := k2_sels lw_privs ++ tables_1
theorem lw_privs_ok : ∀ q ∈ lw_privs, lw_okq q := by
  show ∀ q ∈ lw_privs_1 ++ (lw_privs_2 ++ (lw_privs_3 ++ (lw_privs_4 ++ (lw_privs_5 ++ (lw_privs_6 ++ (lw_privs_7)))))), lw_okq q
  exact List.forall_mem_append.mpr ⟨lw_r1, List.forall_mem_append.mpr ⟨lw_r2, List.forall_mem_append.mpr ⟨lw_r3, List.forall_mem_append.mpr ⟨lw_r4, List.forall_mem_append.mpr ⟨lw_r5, List.forall_mem_append.mpr ⟨lw_r6, lw_r7⟩⟩⟩⟩⟩⟩
-- ===== end of PART A; then your names; then what follows =====
def RX0 : String := "BecauseOf$Bars"
def TX0 : u_T := fun k => match k with
  | 0 => ("BecauseOf$Bars", "good", "[I", true)
  | _ => ("BecauseOf$Bars", "bad", "[I", true)
def tyX0 : Nat → FieldType := fun k => match k with
  | 0 => .array .int
  | _ => .array .int
theorem nm_RX0 : ∀ a, a < 2 → ∀ b, b < 2 → a ≠ b → (TX0 a).2.1 ≠ (TX0 b).2.1 := by decide +kernel
theorem ok_RX0 : ∀ k, k < 2 → parseFieldDescriptor (TX0 k).2.2.1 = some (tyX0 k) := by decide +kernel
def RX1 : String := "BecauseOf$Cases"
def TX1 : u_T := fun k => match k with
  | 0 => ("BecauseOf$Cases", "traits", "[I", true)
  | 1 => ("BecauseOf$Cases", "offices", "[I", true)
  | 2 => ("BecauseOf$Cases", "stages", "[I", true)
  | 3 => ("BecauseOf$Cases", "cames", "[I", true)
  | 4 => ("BecauseOf$Cases", "marks", "[I", true)
  | _ => ("BecauseOf$Cases", "size", "I", false)
def tyX1 : Nat → FieldType := fun k => match k with
  | 0 => .array .int
  | 1 => .array .int
  | 2 => .array .int
  | 3 => .array .int
  | 4 => .array .int
  | _ => .int
theorem nm_RX1 : ∀ a, a < 6 → ∀ b, b < 6 → a ≠ b → (TX1 a).2.1 ≠ (TX1 b).2.1 := by decide +kernel
theorem ok_RX1 : ∀ k, k < 6 → parseFieldDescriptor (TX1 k).2.2.1 = some (tyX1 k) := by decide +kernel
def RX2 : String := "BecauseOf$Change"
def TX2 : u_T := fun k => match k with
  | 0 => ("BecauseOf$Change", "steps", "I", false)
  | 1 => ("BecauseOf$Change", "first", "I", false)
  | 2 => ("BecauseOf$Change", "firstValue", "I", false)
  | 3 => ("BecauseOf$Change", "second", "I", false)
  | _ => ("BecauseOf$Change", "secondValue", "I", false)
def tyX2 : Nat → FieldType := fun k => match k with
  | 0 => .int
  | 1 => .int
  | 2 => .int
  | 3 => .int
  | _ => .int
theorem nm_RX2 : ∀ a, a < 5 → ∀ b, b < 5 → a ≠ b → (TX2 a).2.1 ≠ (TX2 b).2.1 := by decide +kernel
theorem ok_RX2 : ∀ k, k < 5 → parseFieldDescriptor (TX2 k).2.2.1 = some (tyX2 k) := by decide +kernel
def RX3 : String := "BecauseOf$Fraction"
def TX3 : u_T := fun k => match k with
  | 0 => ("BecauseOf$Fraction", "above", "J", false)
  | _ => ("BecauseOf$Fraction", "below", "J", false)
def tyX3 : Nat → FieldType := fun k => match k with
  | 0 => .long
  | _ => .long
theorem nm_RX3 : ∀ a, a < 2 → ∀ b, b < 2 → a ≠ b → (TX3 a).2.1 ≠ (TX3 b).2.1 := by decide +kernel
theorem ok_RX3 : ∀ k, k < 2 → parseFieldDescriptor (TX3 k).2.2.1 = some (tyX3 k) := by decide +kernel
def RX4 : String := "BecauseOf$Letters"
def TX4 : u_T := fun k => match k with
  | 0 => ("BecauseOf$Letters", "offices", "[I", true)
  | 1 => ("BecauseOf$Letters", "firsts", "[Z", true)
  | 2 => ("BecauseOf$Letters", "seconds", "[Z", true)
  | _ => ("BecauseOf$Letters", "size", "I", false)
def tyX4 : Nat → FieldType := fun k => match k with
  | 0 => .array .int
  | 1 => .array .boolean
  | 2 => .array .boolean
  | _ => .int
theorem nm_RX4 : ∀ a, a < 4 → ∀ b, b < 4 → a ≠ b → (TX4 a).2.1 ≠ (TX4 b).2.1 := by decide +kernel
theorem ok_RX4 : ∀ k, k < 4 → parseFieldDescriptor (TX4 k).2.2.1 = some (tyX4 k) := by decide +kernel
def RX5 : String := "BecauseOf$Pairing"
def TX5 : u_T := fun k => match k with
  | 0 => ("BecauseOf$Pairing", "zeros", "[I", true)
  | 1 => ("BecauseOf$Pairing", "ones", "[I", true)
  | 2 => ("BecauseOf$Pairing", "costs", "[I", true)
  | 3 => ("BecauseOf$Pairing", "rowPrice", "[I", true)
  | 4 => ("BecauseOf$Pairing", "columnPrice", "[I", true)
  | 5 => ("BecauseOf$Pairing", "rowOf", "[I", true)
  | 6 => ("BecauseOf$Pairing", "cameFrom", "[I", true)
  | 7 => ("BecauseOf$Pairing", "slack", "[I", true)
  | 8 => ("BecauseOf$Pairing", "reached", "[Z", true)
  | 9 => ("BecauseOf$Pairing", "found", "I", false)
  | _ => ("BecauseOf$Pairing", "sum", "I", false)
def tyX5 : Nat → FieldType := fun k => match k with
  | 0 => .array .int
  | 1 => .array .int
  | 2 => .array .int
  | 3 => .array .int
  | 4 => .array .int
  | 5 => .array .int
  | 6 => .array .int
  | 7 => .array .int
  | 8 => .array .boolean
  | 9 => .int
  | _ => .int
theorem nm_RX5 : ∀ a, a < 11 → ∀ b, b < 11 → a ≠ b → (TX5 a).2.1 ≠ (TX5 b).2.1 := by decide +kernel
theorem ok_RX5 : ∀ k, k < 11 → parseFieldDescriptor (TX5 k).2.2.1 = some (tyX5 k) := by decide +kernel
def RX6 : String := "BecauseOf$Reade\x72"
def TX6 : u_T := fun k => match k with
  | 0 => ("BecauseOf$Reade\x72", "bytes", "[I", true)
  | 1 => ("BecauseOf$Reade\x72", "length", "I", false)
  | 2 => ("BecauseOf$Reade\x72", "kinds", "[I", true)
  | 3 => ("BecauseOf$Reade\x72", "values", "[I", true)
  | 4 => ("BecauseOf$Reade\x72", "places", "[I", true)
  | 5 => ("BecauseOf$Reade\x72", "tokens", "I", false)
  | 6 => ("BecauseOf$Reade\x72", "next", "I", false)
  | 7 => ("BecauseOf$Reade\x72", "steps", "[I", true)
  | 8 => ("BecauseOf$Reade\x72", "stepCount", "I", false)
  | 9 => ("BecauseOf$Reade\x72", "markSet", "I", false)
  | 10 => ("BecauseOf$Reade\x72", "parts", "I", false)
  | 11 => ("BecauseOf$Reade\x72", "waiting", "[I", true)
  | 12 => ("BecauseOf$Reade\x72", "waitingCount", "I", false)
  | _ => ("BecauseOf$Reade\x72", "fault", "I", false)
def tyX6 : Nat → FieldType := fun k => match k with
  | 0 => .array .int
  | 1 => .int
  | 2 => .array .int
  | 3 => .array .int
  | 4 => .array .int
  | 5 => .int
  | 6 => .int
  | 7 => .array .int
  | 8 => .int
  | 9 => .int
  | 10 => .int
  | 11 => .array .int
  | 12 => .int
  | _ => .int
theorem nm_RX6 : ∀ a, a < 14 → ∀ b, b < 14 → a ≠ b → (TX6 a).2.1 ≠ (TX6 b).2.1 := by decide +kernel
theorem ok_RX6 : ∀ k, k < 14 → parseFieldDescriptor (TX6 k).2.2.1 = some (tyX6 k) := by decide +kernel
def RX7 : String := "BecauseOf$ShortRules"
def TX7 : u_T := fun k => match k with
  | 0 => ("BecauseOf$ShortRules", "parts", "[J", true)
  | 1 => ("BecauseOf$ShortRules", "let", "[J", true)
  | 2 => ("BecauseOf$ShortRules", "used", "I", false)
  | 3 => ("BecauseOf$ShortRules", "least", "I", false)
  | 4 => ("BecauseOf$ShortRules", "someName", "Z", false)
  | _ => ("BecauseOf$ShortRules", "allName", "Z", false)
def tyX7 : Nat → FieldType := fun k => match k with
  | 0 => .array .long
  | 1 => .array .long
  | 2 => .int
  | 3 => .int
  | 4 => .boolean
  | _ => .boolean
theorem nm_RX7 : ∀ a, a < 6 → ∀ b, b < 6 → a ≠ b → (TX7 a).2.1 ≠ (TX7 b).2.1 := by decide +kernel
theorem ok_RX7 : ∀ k, k < 6 → parseFieldDescriptor (TX7 k).2.2.1 = some (tyX7 k) := by decide +kernel
def RX8 : String := "BecauseOf$Taken"
def TX8 : u_T := fun k => match k with
  | 0 => ("BecauseOf$Taken", "cases", "LBecauseOf$Cases;", true)
  | 1 => ("BecauseOf$Taken", "row", "[I", true)
  | 2 => ("BecauseOf$Taken", "list", "[I", true)
  | 3 => ("BecauseOf$Taken", "size", "I", false)
  | 4 => ("BecauseOf$Taken", "like", "I", false)
  | 5 => ("BecauseOf$Taken", "groupOf", "[I", true)
  | 6 => ("BecauseOf$Taken", "keys", "[I", true)
  | 7 => ("BecauseOf$Taken", "tallies", "[I", true)
  | _ => ("BecauseOf$Taken", "groups", "I", false)
def tyX8 : Nat → FieldType := fun k => match k with
  | 0 => .object "BecauseOf$Cases"
  | 1 => .array .int
  | 2 => .array .int
  | 3 => .int
  | 4 => .int
  | 5 => .array .int
  | 6 => .array .int
  | 7 => .array .int
  | _ => .int
theorem nm_RX8 : ∀ a, a < 9 → ∀ b, b < 9 → a ≠ b → (TX8 a).2.1 ≠ (TX8 b).2.1 := by decide +kernel
theorem ok_RX8 : ∀ k, k < 9 → parseFieldDescriptor (TX8 k).2.2.1 = some (tyX8 k) := by decide +kernel
def RX9 : String := "BecauseOf$Test"
def TX9 : u_T := fun k => match k with
  | 0 => ("BecauseOf$Test", "steps", "[I", true)
  | _ => ("BecauseOf$Test", "markSet", "I", true)
def tyX9 : Nat → FieldType := fun k => match k with
  | 0 => .array .int
  | _ => .int
theorem nm_RX9 : ∀ a, a < 2 → ∀ b, b < 2 → a ≠ b → (TX9 a).2.1 ≠ (TX9 b).2.1 := by decide +kernel
theorem ok_RX9 : ∀ k, k < 2 → parseFieldDescriptor (TX9 k).2.2.1 = some (tyX9 k) := by decide +kernel
def RX10 : String := "BecauseOf$View"
def TX10 : u_T := fun k => match k with
  | 0 => ("BecauseOf$View", "among", "LBecauseOf$Test;", false)
  | 1 => ("BecauseOf$View", "like", "I", false)
  | 2 => ("BecauseOf$View", "nea\x72", "I", false)
  | 3 => ("BecauseOf$View", "numbers", "[I", true)
  | _ => ("BecauseOf$View", "within", "I", false)
def tyX10 : Nat → FieldType := fun k => match k with
  | 0 => .object "BecauseOf$Test"
  | 1 => .int
  | 2 => .int
  | 3 => .array .int
  | _ => .int
theorem nm_RX10 : ∀ a, a < 5 → ∀ b, b < 5 → a ≠ b → (TX10 a).2.1 ≠ (TX10 b).2.1 := by decide +kernel
theorem ok_RX10 : ∀ k, k < 5 → parseFieldDescriptor (TX10 k).2.2.1 = some (tyX10 k) := by decide +kernel
def RX11 : String := "BecauseOf"
def TX11 : u_T := fun k => match k with
  | 0 => ("BecauseOf", "cases", "LBecauseOf$Cases;", true)
  | 1 => ("BecauseOf", "letters", "LBecauseOf$Letters;", true)
  | 2 => ("BecauseOf", "caseImages", "[LBecauseOf$Cases;", true)
  | 3 => ("BecauseOf", "letterImages", "[LBecauseOf$Letters;", true)
  | 4 => ("BecauseOf", "tape", "LBecauseOf$Reader;", true)
  | 5 => ("BecauseOf", "views", "[LBecauseOf$View;", true)
  | 6 => ("BecauseOf", "rules", "[LBecauseOf$Test;", true)
  | 7 => ("BecauseOf", "viewCount", "I", false)
  | 8 => ("BecauseOf", "ruleCount", "I", false)
  | 9 => ("BecauseOf", "taken", "LBecauseOf$Taken;", true)
  | 10 => ("BecauseOf", "fraction", "LBecauseOf$Fraction;", true)
  | 11 => ("BecauseOf", "pairing", "LBecauseOf$Pairing;", true)
  | 12 => ("BecauseOf", "bars", "LBecauseOf$Bars;", true)
  | 13 => ("BecauseOf", "shortRules", "LBecauseOf$ShortRules;", true)
  | 14 => ("BecauseOf", "nearestChange", "LBecauseOf$Change;", true)
  | _ => ("BecauseOf", "row", "[I", true)
def tyX11 : Nat → FieldType := fun k => match k with
  | 0 => .object "BecauseOf$Cases"
  | 1 => .object "BecauseOf$Letters"
  | 2 => .array (.object "BecauseOf$Cases")
  | 3 => .array (.object "BecauseOf$Letters")
  | 4 => .object "BecauseOf$Reade\x72"
  | 5 => .array (.object "BecauseOf$View")
  | 6 => .array (.object "BecauseOf$Test")
  | 7 => .int
  | 8 => .int
  | 9 => .object "BecauseOf$Taken"
  | 10 => .object "BecauseOf$Fraction"
  | 11 => .object "BecauseOf$Pairing"
  | 12 => .object "BecauseOf$Bars"
  | 13 => .object "BecauseOf$ShortRules"
  | 14 => .object "BecauseOf$Change"
  | _ => .array .int
theorem nm_RX11 : ∀ a, a < 16 → ∀ b, b < 16 → a ≠ b → (TX11 a).2.1 ≠ (TX11 b).2.1 := by decide +kernel
theorem ok_RX11 : ∀ k, k < 16 → parseFieldDescriptor (TX11 k).2.2.1 = some (tyX11 k) := by decide +kernel
def RX12 : String := "BecauseOfModel"
def TX12 : u_T := fun k => match k with
  | 0 => ("BecauseOfModel", "cases", "I", false)
  | 1 => ("BecauseOfModel", "cell", "[I", true)
  | 2 => ("BecauseOfModel", "letters", "I", false)
  | 3 => ("BecauseOfModel", "sent", "[I", true)
  | 4 => ("BecauseOfModel", "tape", "[B", true)
  | 5 => ("BecauseOfModel", "taped", "I", false)
  | 6 => ("BecauseOfModel", "row", "[I", true)
  | 7 => ("BecauseOfModel", "length", "[I", true)
  | 8 => ("BecauseOfModel", "views", "I", false)
  | 9 => ("BecauseOfModel", "rules", "I", false)
  | 10 => ("BecauseOfModel", "hasAmong", "[Z", true)
  | 11 => ("BecauseOfModel", "like", "[I", true)
  | 12 => ("BecauseOfModel", "nea\x72", "[I", true)
  | 13 => ("BecauseOfModel", "within", "[I", true)
  | 14 => ("BecauseOfModel", "next", "I", false)
  | 15 => ("BecauseOfModel", "fault", "I", false)
  | 16 => ("BecauseOfModel", "said", "I", false)
  | 17 => ("BecauseOfModel", "text", "I", false)
  | 18 => ("BecauseOfModel", "made", "I", false)
  | 19 => ("BecauseOfModel", "deep", "I", false)
  | 20 => ("BecauseOfModel", "open", "[I", true)
  | 21 => ("BecauseOfModel", "opened", "I", false)
  | 22 => ("BecauseOfModel", "stack", "[I", true)
  | 23 => ("BecauseOfModel", "top", "I", false)
  | 24 => ("BecauseOfModel", "misses", "Z", false)
  | 25 => ("BecauseOfModel", "likes", "I", false)
  | 26 => ("BecauseOfModel", "many", "I", false)
  | 27 => ("BecauseOfModel", "taken", "[I", true)
  | 28 => ("BecauseOfModel", "all", "[I", true)
  | 29 => ("BecauseOfModel", "let", "[I", true)
  | 30 => ("BecauseOfModel", "up", "J", false)
  | 31 => ("BecauseOfModel", "down", "J", false)
  | 32 => ("BecauseOfModel", "ways", "[J", true)
  | 33 => ("BecauseOfModel", "groups", "I", false)
  | 34 => ("BecauseOfModel", "first", "[I", true)
  | 35 => ("BecauseOfModel", "counts", "[I", true)
  | 36 => ("BecauseOfModel", "leftOut", "I", false)
  | 37 => ("BecauseOfModel", "ones", "[I", true)
  | 38 => ("BecauseOfModel", "twos", "[I", true)
  | 39 => ("BecauseOfModel", "oneMany", "I", false)
  | 40 => ("BecauseOfModel", "twoMany", "I", false)
  | 41 => ("BecauseOfModel", "sums", "[I", true)
  | 42 => ("BecauseOfModel", "posted", "I", false)
  | 43 => ("BecauseOfModel", "turns", "I", false)
  | 44 => ("BecauseOfModel", "heads", "I", false)
  | 45 => ("BecauseOfModel", "there", "[I", true)
  | 46 => ("BecauseOfModel", "pass", "[I", true)
  | 47 => ("BecauseOfModel", "with", "[I", true)
  | 48 => ("BecauseOfModel", "letWith", "[I", true)
  | 49 => ("BecauseOfModel", "isIn", "[Z", true)
  | 50 => ("BecauseOfModel", "letNow", "[Z", true)
  | 51 => ("BecauseOfModel", "fewestWrong", "I", false)
  | 52 => ("BecauseOfModel", "someName", "Z", false)
  | 53 => ("BecauseOfModel", "allName", "Z", false)
  | 54 => ("BecauseOfModel", "found", "[I", true)
  | 55 => ("BecauseOfModel", "images", "[I", true)
  | _ => ("BecauseOfModel", "isMade", "[Z", true)
def tyX12 : Nat → FieldType := fun k => match k with
  | 0 => .int
  | 1 => .array .int
  | 2 => .int
  | 3 => .array .int
  | 4 => .array .byte
  | 5 => .int
  | 6 => .array .int
  | 7 => .array .int
  | 8 => .int
  | 9 => .int
  | 10 => .array .boolean
  | 11 => .array .int
  | 12 => .array .int
  | 13 => .array .int
  | 14 => .int
  | 15 => .int
  | 16 => .int
  | 17 => .int
  | 18 => .int
  | 19 => .int
  | 20 => .array .int
  | 21 => .int
  | 22 => .array .int
  | 23 => .int
  | 24 => .boolean
  | 25 => .int
  | 26 => .int
  | 27 => .array .int
  | 28 => .array .int
  | 29 => .array .int
  | 30 => .long
  | 31 => .long
  | 32 => .array .long
  | 33 => .int
  | 34 => .array .int
  | 35 => .array .int
  | 36 => .int
  | 37 => .array .int
  | 38 => .array .int
  | 39 => .int
  | 40 => .int
  | 41 => .array .int
  | 42 => .int
  | 43 => .int
  | 44 => .int
  | 45 => .array .int
  | 46 => .array .int
  | 47 => .array .int
  | 48 => .array .int
  | 49 => .array .boolean
  | 50 => .array .boolean
  | 51 => .int
  | 52 => .boolean
  | 53 => .boolean
  | 54 => .array .int
  | 55 => .array .int
  | _ => .array .boolean
theorem nm_RX12 : ∀ a, a < 57 → ∀ b, b < 57 → a ≠ b → (TX12 a).2.1 ≠ (TX12 b).2.1 := by decide +kernel
theorem ok_RX12 : ∀ k, k < 57 → parseFieldDescriptor (TX12 k).2.2.1 = some (tyX12 k) := by decide +kernel
/-- the classes of own cells -/
abbrev am_cls : List vw_C := [(RX0, TX0, 2), (RX1, TX1, 6), (RX2, TX2, 5), (RX3, TX3, 2), (RX4, TX4, 4), (RX5, TX5, 11), (RX6, TX6, 14), (RX7, TX7, 6), (RX8, TX8, 9), (RX9, TX9, 2), (RX10, TX10, 5), (RX11, TX11, 16), (RX12, TX12, 57)]
abbrev am_P : Type := List (List (Nat × Instr × Nat × Nat))
/-- the table of a method's code says what its bytes say -/
def am_okd (b : ByteArray) (cd : am_P) : Bool := cd.all fun ch => ch.all fun e => decide (decode b e.1 = .ok (e.2.1, e.2.2.1))
abbrev am_V : Type := Int32 ⊕ (Int64 ⊕ (Option Nat ⊕ Nat))
/-- what a new object of a class holds -/
def am_dfs : List (List am_V) := [
  [Sum.inr (Sum.inr (Sum.inl none)), Sum.inr (Sum.inr (Sum.inl none))],
  [Sum.inr (Sum.inr (Sum.inl none)), Sum.inr (Sum.inr (Sum.inl none)), Sum.inr (Sum.inr (Sum.inl none)), Sum.inr (Sum.inr (Sum.inl none)), Sum.inr (Sum.inr (Sum.inl none)), Sum.inl 0],
  [Sum.inl 0, Sum.inl 0, Sum.inl 0, Sum.inl 0, Sum.inl 0],
  [Sum.inr (Sum.inl 0), Sum.inr (Sum.inl 0)],
  [Sum.inr (Sum.inr (Sum.inl none)), Sum.inr (Sum.inr (Sum.inl none)), Sum.inr (Sum.inr (Sum.inl none)), Sum.inl 0],
  [Sum.inr (Sum.inr (Sum.inl none)), Sum.inr (Sum.inr (Sum.inl none)), Sum.inr (Sum.inr (Sum.inl none)), Sum.inr (Sum.inr (Sum.inl none)), Sum.inr (Sum.inr (Sum.inl none)), Sum.inr (Sum.inr (Sum.inl none)), Sum.inr (Sum.inr (Sum.inl none)), Sum.inr (Sum.inr (Sum.inl none)), Sum.inr (Sum.inr (Sum.inl none)), Sum.inl 0, Sum.inl 0],
  [Sum.inr (Sum.inr (Sum.inl none)), Sum.inl 0, Sum.inr (Sum.inr (Sum.inl none)), Sum.inr (Sum.inr (Sum.inl none)), Sum.inr (Sum.inr (Sum.inl none)), Sum.inl 0, Sum.inl 0, Sum.inr (Sum.inr (Sum.inl none)), Sum.inl 0, Sum.inl 0, Sum.inl 0, Sum.inr (Sum.inr (Sum.inl none)), Sum.inl 0, Sum.inl 0],
  [Sum.inr (Sum.inr (Sum.inl none)), Sum.inr (Sum.inr (Sum.inl none)), Sum.inl 0, Sum.inl 0, Sum.inl 0, Sum.inl 0],
  [Sum.inr (Sum.inr (Sum.inl none)), Sum.inr (Sum.inr (Sum.inl none)), Sum.inr (Sum.inr (Sum.inl none)), Sum.inl 0, Sum.inl 0, Sum.inr (Sum.inr (Sum.inl none)), Sum.inr (Sum.inr (Sum.inl none)), Sum.inr (Sum.inr (Sum.inl none)), Sum.inl 0],
  [Sum.inr (Sum.inr (Sum.inl none)), Sum.inl 0],
  [Sum.inr (Sum.inr (Sum.inl none)), Sum.inl 0, Sum.inl 0, Sum.inr (Sum.inr (Sum.inl none)), Sum.inl 0],
  [Sum.inr (Sum.inr (Sum.inl none)), Sum.inr (Sum.inr (Sum.inl none)), Sum.inr (Sum.inr (Sum.inl none)), Sum.inr (Sum.inr (Sum.inl none)), Sum.inr (Sum.inr (Sum.inl none)), Sum.inr (Sum.inr (Sum.inl none)), Sum.inr (Sum.inr (Sum.inl none)), Sum.inl 0, Sum.inl 0, Sum.inr (Sum.inr (Sum.inl none)), Sum.inr (Sum.inr (Sum.inl none)), Sum.inr (Sum.inr (Sum.inl none)), Sum.inr (Sum.inr (Sum.inl none)), Sum.inr (Sum.inr (Sum.inl none)), Sum.inr (Sum.inr (Sum.inl none)), Sum.inr (Sum.inr (Sum.inl none))],
  [Sum.inl 0, Sum.inr (Sum.inr (Sum.inl none)), Sum.inl 0, Sum.inr (Sum.inr (Sum.inl none)), Sum.inr (Sum.inr (Sum.inl none)), Sum.inl 0, Sum.inr (Sum.inr (Sum.inl none)), Sum.inr (Sum.inr (Sum.inl none)), Sum.inl 0, Sum.inl 0, Sum.inr (Sum.inr (Sum.inl none)), Sum.inr (Sum.inr (Sum.inl none)), Sum.inr (Sum.inr (Sum.inl none)), Sum.inr (Sum.inr (Sum.inl none)), Sum.inl 0, Sum.inl 0, Sum.inl 0, Sum.inl 0, Sum.inl 0, Sum.inl 0, Sum.inr (Sum.inr (Sum.inl none)), Sum.inl 0, Sum.inr (Sum.inr (Sum.inl none)), Sum.inl 0, Sum.inl 0, Sum.inl 0, Sum.inl 0, Sum.inr (Sum.inr (Sum.inl none)), Sum.inr (Sum.inr (Sum.inl none)), Sum.inr (Sum.inr (Sum.inl none)), Sum.inr (Sum.inl 0), Sum.inr (Sum.inl 0), Sum.inr (Sum.inr (Sum.inl none)), Sum.inl 0, Sum.inr (Sum.inr (Sum.inl none)), Sum.inr (Sum.inr (Sum.inl none)), Sum.inl 0, Sum.inr (Sum.inr (Sum.inl none)), Sum.inr (Sum.inr (Sum.inl none)), Sum.inl 0, Sum.inl 0, Sum.inr (Sum.inr (Sum.inl none)), Sum.inl 0, Sum.inl 0, Sum.inl 0, Sum.inr (Sum.inr (Sum.inl none)), Sum.inr (Sum.inr (Sum.inl none)), Sum.inr (Sum.inr (Sum.inl none)), Sum.inr (Sum.inr (Sum.inl none)), Sum.inr (Sum.inr (Sum.inl none)), Sum.inr (Sum.inr (Sum.inl none)), Sum.inl 0, Sum.inl 0, Sum.inl 0, Sum.inr (Sum.inr (Sum.inl none)), Sum.inr (Sum.inr (Sum.inl none)), Sum.inr (Sum.inr (Sum.inl none))]]
/-- the classes that the rows of references (types 4 and more) hold -/
def am_ets : List Nat := [1, 4, 10, 9]
/-- the bytes of the one text constant -/
def am_wls : List Int32 := [109, 97, 32, 109, 98, 32, 109, 99, 32, 109, 100, 32, 109, 101, 32, 109, 102, 32, 116, 114, 97, 105, 116, 32, 111, 102, 102, 105, 99, 101, 32, 115, 116, 97, 103, 101, 32, 99, 97, 109, 101, 32, 107, 110, 111, 119, 110, 32, 97, 109, 111, 110, 103, 32, 108, 105, 107, 101, 32, 110, 101, 97, 114, 32, 119, 105, 116, 104, 105, 110, 32, 97, 110, 100, 32, 111, 114, 32, 110, 111, 116, 32]

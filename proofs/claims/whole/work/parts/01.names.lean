-- ===== PART A: goes FIRST, ahead of the names: the tables' words, and 'selects' of the private methods out of them =====
/-- a private method of a class that the tables say can be made, by its rows of tables_1 -/
def lw_okq (q : MethodName × Nat) : Prop := (q.1.cls ≠ "java/lang/invoke/MethodHandle" ∧ q.1.cls ≠ "java/lang/invoke/VarHandle") ∧ Cond.instantiable q.1.cls q.2 ∈ tables_1 ∧ Cond.privateMethod q.1 ∈ tables_1 ∧ Cond.instanceMethod q.1 ∈ tables_1
theorem lw_p0 : lw_okq (⟨"DebtBridge", "feedInt", "(I)V"⟩, 14) := ⟨⟨by decide +kernel, by decide +kernel⟩, List.mem_of_getElem? (i := 24) (by decide +kernel), List.mem_of_getElem? (i := 451) (by decide +kernel), List.mem_of_getElem? (i := 452) (by decide +kernel)⟩
theorem lw_p1 : lw_okq (⟨"DebtBridge$Reader", "advance", "()V"⟩, 12) := ⟨⟨by decide +kernel, by decide +kernel⟩, List.mem_of_getElem? (i := 32) (by decide +kernel), List.mem_of_getElem? (i := 469) (by decide +kernel), List.mem_of_getElem? (i := 470) (by decide +kernel)⟩
theorem lw_p2 : lw_okq (⟨"DebtBridge$Reader", "readPlanks", "()Z"⟩, 12) := ⟨⟨by decide +kernel, by decide +kernel⟩, List.mem_of_getElem? (i := 32) (by decide +kernel), List.mem_of_getElem? (i := 556) (by decide +kernel), List.mem_of_getElem? (i := 557) (by decide +kernel)⟩
theorem lw_p3 : lw_okq (⟨"DebtBridge$Reader", "takeWord", "(Ljava/lang/String;)Z"⟩, 12) := ⟨⟨by decide +kernel, by decide +kernel⟩, List.mem_of_getElem? (i := 32) (by decide +kernel), List.mem_of_getElem? (i := 561) (by decide +kernel), List.mem_of_getElem? (i := 562) (by decide +kernel)⟩
theorem lw_p4 : lw_okq (⟨"DebtBridge$Reader", "isWord", "(Ljava/lang/String;)Z"⟩, 12) := ⟨⟨by decide +kernel, by decide +kernel⟩, List.mem_of_getElem? (i := 32) (by decide +kernel), List.mem_of_getElem? (i := 565) (by decide +kernel), List.mem_of_getElem? (i := 566) (by decide +kernel)⟩
theorem lw_p5 : lw_okq (⟨"DebtBridge$Reader", "refuse", "(I)Z"⟩, 12) := ⟨⟨by decide +kernel, by decide +kernel⟩, List.mem_of_getElem? (i := 32) (by decide +kernel), List.mem_of_getElem? (i := 590) (by decide +kernel), List.mem_of_getElem? (i := 591) (by decide +kernel)⟩
theorem lw_p6 : lw_okq (⟨"DebtBridge$Reader", "takeNumber", "(II)I"⟩, 12) := ⟨⟨by decide +kernel, by decide +kernel⟩, List.mem_of_getElem? (i := 32) (by decide +kernel), List.mem_of_getElem? (i := 594) (by decide +kernel), List.mem_of_getElem? (i := 595) (by decide +kernel)⟩
theorem lw_p7 : lw_okq (⟨"DebtBridge$Reader", "endLine", "()Z"⟩, 12) := ⟨⟨by decide +kernel, by decide +kernel⟩, List.mem_of_getElem? (i := 32) (by decide +kernel), List.mem_of_getElem? (i := 602) (by decide +kernel), List.mem_of_getElem? (i := 603) (by decide +kernel)⟩
theorem lw_p8 : lw_okq (⟨"DebtBridge$Reader", "takeSign", "(C)Z"⟩, 12) := ⟨⟨by decide +kernel, by decide +kernel⟩, List.mem_of_getElem? (i := 32) (by decide +kernel), List.mem_of_getElem? (i := 606) (by decide +kernel), List.mem_of_getElem? (i := 607) (by decide +kernel)⟩
theorem lw_p9 : lw_okq (⟨"DebtBridge$Reader", "isSign", "(C)Z"⟩, 12) := ⟨⟨by decide +kernel, by decide +kernel⟩, List.mem_of_getElem? (i := 32) (by decide +kernel), List.mem_of_getElem? (i := 610) (by decide +kernel), List.mem_of_getElem? (i := 611) (by decide +kernel)⟩
theorem lw_p10 : lw_okq (⟨"DebtBridge$Reader", "readLine", "()Z"⟩, 12) := ⟨⟨by decide +kernel, by decide +kernel⟩, List.mem_of_getElem? (i := 32) (by decide +kernel), List.mem_of_getElem? (i := 614) (by decide +kernel), List.mem_of_getElem? (i := 615) (by decide +kernel)⟩
theorem lw_p11 : lw_okq (⟨"DebtBridge$Reader", "readPlank", "()Z"⟩, 12) := ⟨⟨by decide +kernel, by decide +kernel⟩, List.mem_of_getElem? (i := 32) (by decide +kernel), List.mem_of_getElem? (i := 619) (by decide +kernel), List.mem_of_getElem? (i := 620) (by decide +kernel)⟩
theorem lw_p12 : lw_okq (⟨"DebtBridge$Reader", "readPerson", "()Z"⟩, 12) := ⟨⟨by decide +kernel, by decide +kernel⟩, List.mem_of_getElem? (i := 32) (by decide +kernel), List.mem_of_getElem? (i := 625) (by decide +kernel), List.mem_of_getElem? (i := 626) (by decide +kernel)⟩
theorem lw_p13 : lw_okq (⟨"DebtBridge$Reader", "readPaper", "()Z"⟩, 12) := ⟨⟨by decide +kernel, by decide +kernel⟩, List.mem_of_getElem? (i := 32) (by decide +kernel), List.mem_of_getElem? (i := 631) (by decide +kernel), List.mem_of_getElem? (i := 632) (by decide +kernel)⟩
theorem lw_p14 : lw_okq (⟨"DebtBridge$Reader", "readWeighs", "()Z"⟩, 12) := ⟨⟨by decide +kernel, by decide +kernel⟩, List.mem_of_getElem? (i := 32) (by decide +kernel), List.mem_of_getElem? (i := 638) (by decide +kernel), List.mem_of_getElem? (i := 639) (by decide +kernel)⟩
theorem lw_p15 : lw_okq (⟨"DebtBridge$Reader", "readSum", "(I)Z"⟩, 12) := ⟨⟨by decide +kernel, by decide +kernel⟩, List.mem_of_getElem? (i := 32) (by decide +kernel), List.mem_of_getElem? (i := 642) (by decide +kernel), List.mem_of_getElem? (i := 643) (by decide +kernel)⟩
def lw_privs_1 : List (MethodName × Nat) := [(⟨"DebtBridge", "feedInt", "(I)V"⟩, 14), (⟨"DebtBridge$Reader", "advance", "()V"⟩, 12), (⟨"DebtBridge$Reader", "readPlanks", "()Z"⟩, 12), (⟨"DebtBridge$Reader", "takeWord", "(Ljava/lang/String;)Z"⟩, 12), (⟨"DebtBridge$Reader", "isWord", "(Ljava/lang/String;)Z"⟩, 12), (⟨"DebtBridge$Reader", "refuse", "(I)Z"⟩, 12), (⟨"DebtBridge$Reader", "takeNumber", "(II)I"⟩, 12), (⟨"DebtBridge$Reader", "endLine", "()Z"⟩, 12), (⟨"DebtBridge$Reader", "takeSign", "(C)Z"⟩, 12), (⟨"DebtBridge$Reader", "isSign", "(C)Z"⟩, 12), (⟨"DebtBridge$Reader", "readLine", "()Z"⟩, 12), (⟨"DebtBridge$Reader", "readPlank", "()Z"⟩, 12), (⟨"DebtBridge$Reader", "readPerson", "()Z"⟩, 12), (⟨"DebtBridge$Reader", "readPaper", "()Z"⟩, 12), (⟨"DebtBridge$Reader", "readWeighs", "()Z"⟩, 12), (⟨"DebtBridge$Reader", "readSum", "(I)Z"⟩, 12)]
theorem lw_r1 : ∀ q ∈ lw_privs_1, lw_okq q := List.forall_mem_cons.mpr ⟨lw_p0, List.forall_mem_cons.mpr ⟨lw_p1, List.forall_mem_cons.mpr ⟨lw_p2, List.forall_mem_cons.mpr ⟨lw_p3, List.forall_mem_cons.mpr ⟨lw_p4, List.forall_mem_cons.mpr ⟨lw_p5, List.forall_mem_cons.mpr ⟨lw_p6, List.forall_mem_cons.mpr ⟨lw_p7, List.forall_mem_cons.mpr ⟨lw_p8, List.forall_mem_cons.mpr ⟨lw_p9, List.forall_mem_cons.mpr ⟨lw_p10, List.forall_mem_cons.mpr ⟨lw_p11, List.forall_mem_cons.mpr ⟨lw_p12, List.forall_mem_cons.mpr ⟨lw_p13, List.forall_mem_cons.mpr ⟨lw_p14, List.forall_mem_cons.mpr ⟨lw_p15, fun _ h => absurd h List.not_mem_nil⟩⟩⟩⟩⟩⟩⟩⟩⟩⟩⟩⟩⟩⟩⟩⟩
theorem lw_p16 : lw_okq (⟨"DebtBridge$Reader", "readTerm", "(I)Z"⟩, 12) := ⟨⟨by decide +kernel, by decide +kernel⟩, List.mem_of_getElem? (i := 32) (by decide +kernel), List.mem_of_getElem? (i := 646) (by decide +kernel), List.mem_of_getElem? (i := 647) (by decide +kernel)⟩
theorem lw_p17 : lw_okq (⟨"DebtBridge$Reader", "readAtom", "(I)Z"⟩, 12) := ⟨⟨by decide +kernel, by decide +kernel⟩, List.mem_of_getElem? (i := 32) (by decide +kernel), List.mem_of_getElem? (i := 650) (by decide +kernel), List.mem_of_getElem? (i := 651) (by decide +kernel)⟩
theorem lw_p18 : lw_okq (⟨"DebtBridge$Reader", "knownWord", "()I"⟩, 12) := ⟨⟨by decide +kernel, by decide +kernel⟩, List.mem_of_getElem? (i := 32) (by decide +kernel), List.mem_of_getElem? (i := 654) (by decide +kernel), List.mem_of_getElem? (i := 655) (by decide +kernel)⟩
theorem lw_p19 : lw_okq (⟨"DebtBridge$Reader", "emit", "(I)V"⟩, 12) := ⟨⟨by decide +kernel, by decide +kernel⟩, List.mem_of_getElem? (i := 32) (by decide +kernel), List.mem_of_getElem? (i := 666) (by decide +kernel), List.mem_of_getElem? (i := 667) (by decide +kernel)⟩
theorem lw_p20 : lw_okq (⟨"DebtBridge$Reader", "readLets", "()Z"⟩, 12) := ⟨⟨by decide +kernel, by decide +kernel⟩, List.mem_of_getElem? (i := 32) (by decide +kernel), List.mem_of_getElem? (i := 685) (by decide +kernel), List.mem_of_getElem? (i := 686) (by decide +kernel)⟩
theorem lw_p21 : lw_okq (⟨"DebtBridge$Reader", "readTruth", "(I)Z"⟩, 12) := ⟨⟨by decide +kernel, by decide +kernel⟩, List.mem_of_getElem? (i := 32) (by decide +kernel), List.mem_of_getElem? (i := 689) (by decide +kernel), List.mem_of_getElem? (i := 690) (by decide +kernel)⟩
theorem lw_p22 : lw_okq (⟨"DebtBridge$Reader", "readBoth", "(I)Z"⟩, 12) := ⟨⟨by decide +kernel, by decide +kernel⟩, List.mem_of_getElem? (i := 32) (by decide +kernel), List.mem_of_getElem? (i := 693) (by decide +kernel), List.mem_of_getElem? (i := 694) (by decide +kernel)⟩
theorem lw_p23 : lw_okq (⟨"DebtBridge$Reader", "readUnit", "(I)Z"⟩, 12) := ⟨⟨by decide +kernel, by decide +kernel⟩, List.mem_of_getElem? (i := 32) (by decide +kernel), List.mem_of_getElem? (i := 697) (by decide +kernel), List.mem_of_getElem? (i := 698) (by decide +kernel)⟩
theorem lw_p24 : lw_okq (⟨"DebtBridge$Reader", "comparison", "()I"⟩, 12) := ⟨⟨by decide +kernel, by decide +kernel⟩, List.mem_of_getElem? (i := 32) (by decide +kernel), List.mem_of_getElem? (i := 702) (by decide +kernel), List.mem_of_getElem? (i := 703) (by decide +kernel)⟩
theorem lw_p25 : lw_okq (⟨"DebtBridge$Reader", "readSnowy", "()Z"⟩, 12) := ⟨⟨by decide +kernel, by decide +kernel⟩, List.mem_of_getElem? (i := 32) (by decide +kernel), List.mem_of_getElem? (i := 709) (by decide +kernel), List.mem_of_getElem? (i := 710) (by decide +kernel)⟩
theorem lw_p26 : lw_okq (⟨"DebtBridge$Reader", "readDay", "()Z"⟩, 12) := ⟨⟨by decide +kernel, by decide +kernel⟩, List.mem_of_getElem? (i := 32) (by decide +kernel), List.mem_of_getElem? (i := 713) (by decide +kernel), List.mem_of_getElem? (i := 714) (by decide +kernel)⟩
theorem lw_p27 : lw_okq (⟨"DebtBridge$World", "knowToday", "(I)V"⟩, 4) := ⟨⟨by decide +kernel, by decide +kernel⟩, List.mem_of_getElem? (i := 145) (by decide +kernel), List.mem_of_getElem? (i := 743) (by decide +kernel), List.mem_of_getElem? (i := 744) (by decide +kernel)⟩
theorem lw_p28 : lw_okq (⟨"DebtBridge$World", "firstToBreak", "()I"⟩, 4) := ⟨⟨by decide +kernel, by decide +kernel⟩, List.mem_of_getElem? (i := 145) (by decide +kernel), List.mem_of_getElem? (i := 772) (by decide +kernel), List.mem_of_getElem? (i := 773) (by decide +kernel)⟩
theorem lw_p29 : lw_okq (⟨"DebtBridge$Deeds", "canMove", "(II)Z"⟩, 3) := ⟨⟨by decide +kernel, by decide +kernel⟩, List.mem_of_getElem? (i := 241) (by decide +kernel), List.mem_of_getElem? (i := 854) (by decide +kernel), List.mem_of_getElem? (i := 855) (by decide +kernel)⟩
theorem lw_p30 : lw_okq (⟨"DebtBridge$Deeds", "isLet", "(II)Z"⟩, 3) := ⟨⟨by decide +kernel, by decide +kernel⟩, List.mem_of_getElem? (i := 241) (by decide +kernel), List.mem_of_getElem? (i := 860) (by decide +kernel), List.mem_of_getElem? (i := 861) (by decide +kernel)⟩
theorem lw_p31 : lw_okq (⟨"DebtBridge$Deeds", "owesBothWays", "(I)Z"⟩, 3) := ⟨⟨by decide +kernel, by decide +kernel⟩, List.mem_of_getElem? (i := 241) (by decide +kernel), List.mem_of_getElem? (i := 879) (by decide +kernel), List.mem_of_getElem? (i := 880) (by decide +kernel)⟩
def lw_privs_2 : List (MethodName × Nat) := [(⟨"DebtBridge$Reader", "readTerm", "(I)Z"⟩, 12), (⟨"DebtBridge$Reader", "readAtom", "(I)Z"⟩, 12), (⟨"DebtBridge$Reader", "knownWord", "()I"⟩, 12), (⟨"DebtBridge$Reader", "emit", "(I)V"⟩, 12), (⟨"DebtBridge$Reader", "readLets", "()Z"⟩, 12), (⟨"DebtBridge$Reader", "readTruth", "(I)Z"⟩, 12), (⟨"DebtBridge$Reader", "readBoth", "(I)Z"⟩, 12), (⟨"DebtBridge$Reader", "readUnit", "(I)Z"⟩, 12), (⟨"DebtBridge$Reader", "comparison", "()I"⟩, 12), (⟨"DebtBridge$Reader", "readSnowy", "()Z"⟩, 12), (⟨"DebtBridge$Reader", "readDay", "()Z"⟩, 12), (⟨"DebtBridge$World", "knowToday", "(I)V"⟩, 4), (⟨"DebtBridge$World", "firstToBreak", "()I"⟩, 4), (⟨"DebtBridge$Deeds", "canMove", "(II)Z"⟩, 3), (⟨"DebtBridge$Deeds", "isLet", "(II)Z"⟩, 3), (⟨"DebtBridge$Deeds", "owesBothWays", "(I)Z"⟩, 3)]
theorem lw_r2 : ∀ q ∈ lw_privs_2, lw_okq q := List.forall_mem_cons.mpr ⟨lw_p16, List.forall_mem_cons.mpr ⟨lw_p17, List.forall_mem_cons.mpr ⟨lw_p18, List.forall_mem_cons.mpr ⟨lw_p19, List.forall_mem_cons.mpr ⟨lw_p20, List.forall_mem_cons.mpr ⟨lw_p21, List.forall_mem_cons.mpr ⟨lw_p22, List.forall_mem_cons.mpr ⟨lw_p23, List.forall_mem_cons.mpr ⟨lw_p24, List.forall_mem_cons.mpr ⟨lw_p25, List.forall_mem_cons.mpr ⟨lw_p26, List.forall_mem_cons.mpr ⟨lw_p27, List.forall_mem_cons.mpr ⟨lw_p28, List.forall_mem_cons.mpr ⟨lw_p29, List.forall_mem_cons.mpr ⟨lw_p30, List.forall_mem_cons.mpr ⟨lw_p31, fun _ h => absurd h List.not_mem_nil⟩⟩⟩⟩⟩⟩⟩⟩⟩⟩⟩⟩⟩⟩⟩⟩
theorem lw_p32 : lw_okq (⟨"DebtBridge", "ended", "(I)Z"⟩, 14) := ⟨⟨by decide +kernel, by decide +kernel⟩, List.mem_of_getElem? (i := 24) (by decide +kernel), List.mem_of_getElem? (i := 885) (by decide +kernel), List.mem_of_getElem? (i := 886) (by decide +kernel)⟩
theorem lw_p33 : lw_okq (⟨"DebtBridge", "trayCode", "(I)I"⟩, 14) := ⟨⟨by decide +kernel, by decide +kernel⟩, List.mem_of_getElem? (i := 24) (by decide +kernel), List.mem_of_getElem? (i := 913) (by decide +kernel), List.mem_of_getElem? (i := 914) (by decide +kernel)⟩
theorem lw_p34 : lw_okq (⟨"DebtBridge", "isTray", "(I)Z"⟩, 14) := ⟨⟨by decide +kernel, by decide +kernel⟩, List.mem_of_getElem? (i := 24) (by decide +kernel), List.mem_of_getElem? (i := 917) (by decide +kernel), List.mem_of_getElem? (i := 918) (by decide +kernel)⟩
theorem lw_p35 : lw_okq (⟨"DebtBridge$Deeds", "draw", "()I"⟩, 3) := ⟨⟨by decide +kernel, by decide +kernel⟩, List.mem_of_getElem? (i := 241) (by decide +kernel), List.mem_of_getElem? (i := 950) (by decide +kernel), List.mem_of_getElem? (i := 951) (by decide +kernel)⟩
theorem lw_p36 : lw_okq (⟨"DebtBridge$Deeds", "doOne", "(J)I"⟩, 3) := ⟨⟨by decide +kernel, by decide +kernel⟩, List.mem_of_getElem? (i := 241) (by decide +kernel), List.mem_of_getElem? (i := 976) (by decide +kernel), List.mem_of_getElem? (i := 977) (by decide +kernel)⟩
theorem lw_p37 : lw_okq (⟨"DebtBridge$World", "bitsAt", "(I)I"⟩, 4) := ⟨⟨by decide +kernel, by decide +kernel⟩, List.mem_of_getElem? (i := 145) (by decide +kernel), List.mem_of_getElem? (i := 991) (by decide +kernel), List.mem_of_getElem? (i := 992) (by decide +kernel)⟩
theorem lw_p38 : lw_okq (⟨"DebtBridge$Trials", "getsOverWithout", "(II)Z"⟩, 8) := ⟨⟨by decide +kernel, by decide +kernel⟩, List.mem_of_getElem? (i := 340) (by decide +kernel), List.mem_of_getElem? (i := 1038) (by decide +kernel), List.mem_of_getElem? (i := 1039) (by decide +kernel)⟩
theorem lw_p39 : lw_okq (⟨"DebtBridge$Rows", "walk", "(I)I"⟩, 6) := ⟨⟨by decide +kernel, by decide +kernel⟩, List.mem_of_getElem? (i := 279) (by decide +kernel), List.mem_of_getElem? (i := 1057) (by decide +kernel), List.mem_of_getElem? (i := 1058) (by decide +kernel)⟩
theorem lw_p40 : lw_okq (⟨"DebtBridge$Rows", "firstBad", "()I"⟩, 6) := ⟨⟨by decide +kernel, by decide +kernel⟩, List.mem_of_getElem? (i := 279) (by decide +kernel), List.mem_of_getElem? (i := 1064) (by decide +kernel), List.mem_of_getElem? (i := 1065) (by decide +kernel)⟩
theorem lw_p41 : lw_okq (⟨"DebtBridge$Rows", "weightAt", "(I)I"⟩, 6) := ⟨⟨by decide +kernel, by decide +kernel⟩, List.mem_of_getElem? (i := 279) (by decide +kernel), List.mem_of_getElem? (i := 1069) (by decide +kernel), List.mem_of_getElem? (i := 1070) (by decide +kernel)⟩
theorem lw_p42 : lw_okq (⟨"DebtBridge", "isSet", "(I)Z"⟩, 14) := ⟨⟨by decide +kernel, by decide +kernel⟩, List.mem_of_getElem? (i := 24) (by decide +kernel), List.mem_of_getElem? (i := 1078) (by decide +kernel), List.mem_of_getElem? (i := 1079) (by decide +kernel)⟩
theorem lw_p43 : lw_okq (⟨"DebtBridge$Rows", "fill", "(II)V"⟩, 6) := ⟨⟨by decide +kernel, by decide +kernel⟩, List.mem_of_getElem? (i := 279) (by decide +kernel), List.mem_of_getElem? (i := 1086) (by decide +kernel), List.mem_of_getElem? (i := 1087) (by decide +kernel)⟩
theorem lw_p44 : lw_okq (⟨"DebtBridge$Rows", "isBorne", "(II)Z"⟩, 6) := ⟨⟨by decide +kernel, by decide +kernel⟩, List.mem_of_getElem? (i := 279) (by decide +kernel), List.mem_of_getElem? (i := 1090) (by decide +kernel), List.mem_of_getElem? (i := 1091) (by decide +kernel)⟩
theorem lw_p45 : lw_okq (⟨"DebtBridge$Ledger", "mostGroups", "(II)I"⟩, 8) := ⟨⟨by decide +kernel, by decide +kernel⟩, List.mem_of_getElem? (i := 305) (by decide +kernel), List.mem_of_getElem? (i := 1136) (by decide +kernel), List.mem_of_getElem? (i := 1137) (by decide +kernel)⟩
theorem lw_p46 : lw_okq (⟨"DebtBridge$Ledger", "follow", "(III)V"⟩, 8) := ⟨⟨by decide +kernel, by decide +kernel⟩, List.mem_of_getElem? (i := 305) (by decide +kernel), List.mem_of_getElem? (i := 1148) (by decide +kernel), List.mem_of_getElem? (i := 1149) (by decide +kernel)⟩
theorem lw_p47 : lw_okq (⟨"DebtBridge$Ledger", "close", "(II)V"⟩, 8) := ⟨⟨by decide +kernel, by decide +kernel⟩, List.mem_of_getElem? (i := 305) (by decide +kernel), List.mem_of_getElem? (i := 1154) (by decide +kernel), List.mem_of_getElem? (i := 1155) (by decide +kernel)⟩
def lw_privs_3 : List (MethodName × Nat) := [(⟨"DebtBridge", "ended", "(I)Z"⟩, 14), (⟨"DebtBridge", "trayCode", "(I)I"⟩, 14), (⟨"DebtBridge", "isTray", "(I)Z"⟩, 14), (⟨"DebtBridge$Deeds", "draw", "()I"⟩, 3), (⟨"DebtBridge$Deeds", "doOne", "(J)I"⟩, 3), (⟨"DebtBridge$World", "bitsAt", "(I)I"⟩, 4), (⟨"DebtBridge$Trials", "getsOverWithout", "(II)Z"⟩, 8), (⟨"DebtBridge$Rows", "walk", "(I)I"⟩, 6), (⟨"DebtBridge$Rows", "firstBad", "()I"⟩, 6), (⟨"DebtBridge$Rows", "weightAt", "(I)I"⟩, 6), (⟨"DebtBridge", "isSet", "(I)Z"⟩, 14), (⟨"DebtBridge$Rows", "fill", "(II)V"⟩, 6), (⟨"DebtBridge$Rows", "isBorne", "(II)Z"⟩, 6), (⟨"DebtBridge$Ledger", "mostGroups", "(II)I"⟩, 8), (⟨"DebtBridge$Ledger", "follow", "(III)V"⟩, 8), (⟨"DebtBridge$Ledger", "close", "(II)V"⟩, 8)]
theorem lw_r3 : ∀ q ∈ lw_privs_3, lw_okq q := List.forall_mem_cons.mpr ⟨lw_p32, List.forall_mem_cons.mpr ⟨lw_p33, List.forall_mem_cons.mpr ⟨lw_p34, List.forall_mem_cons.mpr ⟨lw_p35, List.forall_mem_cons.mpr ⟨lw_p36, List.forall_mem_cons.mpr ⟨lw_p37, List.forall_mem_cons.mpr ⟨lw_p38, List.forall_mem_cons.mpr ⟨lw_p39, List.forall_mem_cons.mpr ⟨lw_p40, List.forall_mem_cons.mpr ⟨lw_p41, List.forall_mem_cons.mpr ⟨lw_p42, List.forall_mem_cons.mpr ⟨lw_p43, List.forall_mem_cons.mpr ⟨lw_p44, List.forall_mem_cons.mpr ⟨lw_p45, List.forall_mem_cons.mpr ⟨lw_p46, List.forall_mem_cons.mpr ⟨lw_p47, fun _ h => absurd h List.not_mem_nil⟩⟩⟩⟩⟩⟩⟩⟩⟩⟩⟩⟩⟩⟩⟩⟩
theorem lw_p48 : lw_okq (⟨"DebtBridge", "canBeMendedFor", "(I)Z"⟩, 14) := ⟨⟨by decide +kernel, by decide +kernel⟩, List.mem_of_getElem? (i := 24) (by decide +kernel), List.mem_of_getElem? (i := 1181) (by decide +kernel), List.mem_of_getElem? (i := 1182) (by decide +kernel)⟩
theorem lw_p49 : lw_okq (⟨"DebtBridge", "mendsOver", "(I)I"⟩, 14) := ⟨⟨by decide +kernel, by decide +kernel⟩, List.mem_of_getElem? (i := 24) (by decide +kernel), List.mem_of_getElem? (i := 1189) (by decide +kernel), List.mem_of_getElem? (i := 1190) (by decide +kernel)⟩
theorem lw_p50 : lw_okq (⟨"DebtBridge", "seenCode", "(I)I"⟩, 14) := ⟨⟨by decide +kernel, by decide +kernel⟩, List.mem_of_getElem? (i := 24) (by decide +kernel), List.mem_of_getElem? (i := 1206) (by decide +kernel), List.mem_of_getElem? (i := 1207) (by decide +kernel)⟩
theorem lw_p51 : lw_okq (⟨"DebtBridge$Trials", "looksLike", "(LDebtBridge$Tray;)Z"⟩, 8) := ⟨⟨by decide +kernel, by decide +kernel⟩, List.mem_of_getElem? (i := 340) (by decide +kernel), List.mem_of_getElem? (i := 1215) (by decide +kernel), List.mem_of_getElem? (i := 1216) (by decide +kernel)⟩
theorem lw_p52 : lw_okq (⟨"DebtBridge$Trials", "mostAlike", "(I)I"⟩, 8) := ⟨⟨by decide +kernel, by decide +kernel⟩, List.mem_of_getElem? (i := 340) (by decide +kernel), List.mem_of_getElem? (i := 1233) (by decide +kernel), List.mem_of_getElem? (i := 1234) (by decide +kernel)⟩
theorem lw_p53 : lw_okq (⟨"DebtBridge$Trials", "stopsIf", "(I)Z"⟩, 8) := ⟨⟨by decide +kernel, by decide +kernel⟩, List.mem_of_getElem? (i := 340) (by decide +kernel), List.mem_of_getElem? (i := 1252) (by decide +kernel), List.mem_of_getElem? (i := 1253) (by decide +kernel)⟩
theorem lw_p54 : lw_okq (⟨"DebtBridge$Tray", "cut", "(J)J"⟩, 4) := ⟨⟨by decide +kernel, by decide +kernel⟩, List.mem_of_getElem? (i := 376) (by decide +kernel), List.mem_of_getElem? (i := 1286) (by decide +kernel), List.mem_of_getElem? (i := 1287) (by decide +kernel)⟩
theorem lw_p55 : lw_okq (⟨"DebtBridgeModel", "next", "()V"⟩, 33) := ⟨⟨by decide +kernel, by decide +kernel⟩, List.mem_of_getElem? (i := 1317) (by decide +kernel), List.mem_of_getElem? (i := 1437) (by decide +kernel), List.mem_of_getElem? (i := 1438) (by decide +kernel)⟩
theorem lw_p56 : lw_okq (⟨"DebtBridgeModel", "see", "(I)I"⟩, 33) := ⟨⟨by decide +kernel, by decide +kernel⟩, List.mem_of_getElem? (i := 1317) (by decide +kernel), List.mem_of_getElem? (i := 1441) (by decide +kernel), List.mem_of_getElem? (i := 1442) (by decide +kernel)⟩
theorem lw_p57 : lw_okq (⟨"DebtBridgeModel", "keyAt", "()I"⟩, 33) := ⟨⟨by decide +kernel, by decide +kernel⟩, List.mem_of_getElem? (i := 1317) (by decide +kernel), List.mem_of_getElem? (i := 1448) (by decide +kernel), List.mem_of_getElem? (i := 1449) (by decide +kernel)⟩
theorem lw_p58 : lw_okq (⟨"DebtBridgeModel", "eats", "(I)Z"⟩, 33) := ⟨⟨by decide +kernel, by decide +kernel⟩, List.mem_of_getElem? (i := 1317) (by decide +kernel), List.mem_of_getElem? (i := 1459) (by decide +kernel), List.mem_of_getElem? (i := 1460) (by decide +kernel)⟩
theorem lw_p59 : lw_okq (⟨"DebtBridgeModel", "is", "(I)Z"⟩, 33) := ⟨⟨by decide +kernel, by decide +kernel⟩, List.mem_of_getElem? (i := 1317) (by decide +kernel), List.mem_of_getElem? (i := 1463) (by decide +kernel), List.mem_of_getElem? (i := 1464) (by decide +kernel)⟩
theorem lw_p60 : lw_okq (⟨"DebtBridgeModel", "fails", "(I)V"⟩, 33) := ⟨⟨by decide +kernel, by decide +kernel⟩, List.mem_of_getElem? (i := 1317) (by decide +kernel), List.mem_of_getElem? (i := 1467) (by decide +kernel), List.mem_of_getElem? (i := 1468) (by decide +kernel)⟩
theorem lw_p61 : lw_okq (⟨"DebtBridgeModel", "takes", "(II)I"⟩, 33) := ⟨⟨by decide +kernel, by decide +kernel⟩, List.mem_of_getElem? (i := 1317) (by decide +kernel), List.mem_of_getElem? (i := 1471) (by decide +kernel), List.mem_of_getElem? (i := 1472) (by decide +kernel)⟩
theorem lw_p62 : lw_okq (⟨"DebtBridgeModel", "ends", "()V"⟩, 33) := ⟨⟨by decide +kernel, by decide +kernel⟩, List.mem_of_getElem? (i := 1317) (by decide +kernel), List.mem_of_getElem? (i := 1475) (by decide +kernel), List.mem_of_getElem? (i := 1476) (by decide +kernel)⟩
theorem lw_p63 : lw_okq (⟨"DebtBridgeModel", "readLine", "()V"⟩, 33) := ⟨⟨by decide +kernel, by decide +kernel⟩, List.mem_of_getElem? (i := 1317) (by decide +kernel), List.mem_of_getElem? (i := 1479) (by decide +kernel), List.mem_of_getElem? (i := 1480) (by decide +kernel)⟩
def lw_privs_4 : List (MethodName × Nat) := [(⟨"DebtBridge", "canBeMendedFor", "(I)Z"⟩, 14), (⟨"DebtBridge", "mendsOver", "(I)I"⟩, 14), (⟨"DebtBridge", "seenCode", "(I)I"⟩, 14), (⟨"DebtBridge$Trials", "looksLike", "(LDebtBridge$Tray;)Z"⟩, 8), (⟨"DebtBridge$Trials", "mostAlike", "(I)I"⟩, 8), (⟨"DebtBridge$Trials", "stopsIf", "(I)Z"⟩, 8), (⟨"DebtBridge$Tray", "cut", "(J)J"⟩, 4), (⟨"DebtBridgeModel", "next", "()V"⟩, 33), (⟨"DebtBridgeModel", "see", "(I)I"⟩, 33), (⟨"DebtBridgeModel", "keyAt", "()I"⟩, 33), (⟨"DebtBridgeModel", "eats", "(I)Z"⟩, 33), (⟨"DebtBridgeModel", "is", "(I)Z"⟩, 33), (⟨"DebtBridgeModel", "fails", "(I)V"⟩, 33), (⟨"DebtBridgeModel", "takes", "(II)I"⟩, 33), (⟨"DebtBridgeModel", "ends", "()V"⟩, 33), (⟨"DebtBridgeModel", "readLine", "()V"⟩, 33)]
theorem lw_r4 : ∀ q ∈ lw_privs_4, lw_okq q := List.forall_mem_cons.mpr ⟨lw_p48, List.forall_mem_cons.mpr ⟨lw_p49, List.forall_mem_cons.mpr ⟨lw_p50, List.forall_mem_cons.mpr ⟨lw_p51, List.forall_mem_cons.mpr ⟨lw_p52, List.forall_mem_cons.mpr ⟨lw_p53, List.forall_mem_cons.mpr ⟨lw_p54, List.forall_mem_cons.mpr ⟨lw_p55, List.forall_mem_cons.mpr ⟨lw_p56, List.forall_mem_cons.mpr ⟨lw_p57, List.forall_mem_cons.mpr ⟨lw_p58, List.forall_mem_cons.mpr ⟨lw_p59, List.forall_mem_cons.mpr ⟨lw_p60, List.forall_mem_cons.mpr ⟨lw_p61, List.forall_mem_cons.mpr ⟨lw_p62, List.forall_mem_cons.mpr ⟨lw_p63, fun _ h => absurd h List.not_mem_nil⟩⟩⟩⟩⟩⟩⟩⟩⟩⟩⟩⟩⟩⟩⟩⟩
theorem lw_p64 : lw_okq (⟨"DebtBridgeModel", "readPlank", "()V"⟩, 33) := ⟨⟨by decide +kernel, by decide +kernel⟩, List.mem_of_getElem? (i := 1317) (by decide +kernel), List.mem_of_getElem? (i := 1483) (by decide +kernel), List.mem_of_getElem? (i := 1484) (by decide +kernel)⟩
theorem lw_p65 : lw_okq (⟨"DebtBridgeModel", "readPerson", "()V"⟩, 33) := ⟨⟨by decide +kernel, by decide +kernel⟩, List.mem_of_getElem? (i := 1317) (by decide +kernel), List.mem_of_getElem? (i := 1487) (by decide +kernel), List.mem_of_getElem? (i := 1488) (by decide +kernel)⟩
theorem lw_p66 : lw_okq (⟨"DebtBridgeModel", "readPaper", "()V"⟩, 33) := ⟨⟨by decide +kernel, by decide +kernel⟩, List.mem_of_getElem? (i := 1317) (by decide +kernel), List.mem_of_getElem? (i := 1491) (by decide +kernel), List.mem_of_getElem? (i := 1492) (by decide +kernel)⟩
theorem lw_p67 : lw_okq (⟨"DebtBridgeModel", "readLaw", "(I)V"⟩, 33) := ⟨⟨by decide +kernel, by decide +kernel⟩, List.mem_of_getElem? (i := 1317) (by decide +kernel), List.mem_of_getElem? (i := 1495) (by decide +kernel), List.mem_of_getElem? (i := 1496) (by decide +kernel)⟩
theorem lw_p68 : lw_okq (⟨"DebtBridgeModel", "readSum", "(I)V"⟩, 33) := ⟨⟨by decide +kernel, by decide +kernel⟩, List.mem_of_getElem? (i := 1317) (by decide +kernel), List.mem_of_getElem? (i := 1499) (by decide +kernel), List.mem_of_getElem? (i := 1500) (by decide +kernel)⟩
theorem lw_p69 : lw_okq (⟨"DebtBridgeModel", "readTerm", "(I)V"⟩, 33) := ⟨⟨by decide +kernel, by decide +kernel⟩, List.mem_of_getElem? (i := 1317) (by decide +kernel), List.mem_of_getElem? (i := 1503) (by decide +kernel), List.mem_of_getElem? (i := 1504) (by decide +kernel)⟩
theorem lw_p70 : lw_okq (⟨"DebtBridgeModel", "readAtom", "(I)V"⟩, 33) := ⟨⟨by decide +kernel, by decide +kernel⟩, List.mem_of_getElem? (i := 1317) (by decide +kernel), List.mem_of_getElem? (i := 1507) (by decide +kernel), List.mem_of_getElem? (i := 1508) (by decide +kernel)⟩
theorem lw_p71 : lw_okq (⟨"DebtBridgeModel", "codes", "(I)V"⟩, 33) := ⟨⟨by decide +kernel, by decide +kernel⟩, List.mem_of_getElem? (i := 1317) (by decide +kernel), List.mem_of_getElem? (i := 1511) (by decide +kernel), List.mem_of_getElem? (i := 1512) (by decide +kernel)⟩
theorem lw_p72 : lw_okq (⟨"DebtBridgeModel", "wordOf", "(I)I"⟩, 33) := ⟨⟨by decide +kernel, by decide +kernel⟩, List.mem_of_getElem? (i := 1317) (by decide +kernel), List.mem_of_getElem? (i := 1515) (by decide +kernel), List.mem_of_getElem? (i := 1516) (by decide +kernel)⟩
theorem lw_p73 : lw_okq (⟨"DebtBridgeModel", "goesIn", "(I)Z"⟩, 33) := ⟨⟨by decide +kernel, by decide +kernel⟩, List.mem_of_getElem? (i := 1317) (by decide +kernel), List.mem_of_getElem? (i := 1519) (by decide +kernel), List.mem_of_getElem? (i := 1520) (by decide +kernel)⟩
theorem lw_p74 : lw_okq (⟨"DebtBridgeModel", "readTruth", "(I)V"⟩, 33) := ⟨⟨by decide +kernel, by decide +kernel⟩, List.mem_of_getElem? (i := 1317) (by decide +kernel), List.mem_of_getElem? (i := 1523) (by decide +kernel), List.mem_of_getElem? (i := 1524) (by decide +kernel)⟩
theorem lw_p75 : lw_okq (⟨"DebtBridgeModel", "readBoth", "(I)V"⟩, 33) := ⟨⟨by decide +kernel, by decide +kernel⟩, List.mem_of_getElem? (i := 1317) (by decide +kernel), List.mem_of_getElem? (i := 1527) (by decide +kernel), List.mem_of_getElem? (i := 1528) (by decide +kernel)⟩
theorem lw_p76 : lw_okq (⟨"DebtBridgeModel", "readUnit", "(I)V"⟩, 33) := ⟨⟨by decide +kernel, by decide +kernel⟩, List.mem_of_getElem? (i := 1317) (by decide +kernel), List.mem_of_getElem? (i := 1531) (by decide +kernel), List.mem_of_getElem? (i := 1532) (by decide +kernel)⟩
theorem lw_p77 : lw_okq (⟨"DebtBridgeModel", "breaks", "()V"⟩, 33) := ⟨⟨by decide +kernel, by decide +kernel⟩, List.mem_of_getElem? (i := 1317) (by decide +kernel), List.mem_of_getElem? (i := 1535) (by decide +kernel), List.mem_of_getElem? (i := 1536) (by decide +kernel)⟩
theorem lw_p78 : lw_okq (⟨"DebtBridgeModel", "laysNow", "()V"⟩, 33) := ⟨⟨by decide +kernel, by decide +kernel⟩, List.mem_of_getElem? (i := 1317) (by decide +kernel), List.mem_of_getElem? (i := 1539) (by decide +kernel), List.mem_of_getElem? (i := 1540) (by decide +kernel)⟩
theorem lw_p79 : lw_okq (⟨"DebtBridgeModel", "isOn", "(I)Z"⟩, 33) := ⟨⟨by decide +kernel, by decide +kernel⟩, List.mem_of_getElem? (i := 1317) (by decide +kernel), List.mem_of_getElem? (i := 1543) (by decide +kernel), List.mem_of_getElem? (i := 1544) (by decide +kernel)⟩
def lw_privs_5 : List (MethodName × Nat) := [(⟨"DebtBridgeModel", "readPlank", "()V"⟩, 33), (⟨"DebtBridgeModel", "readPerson", "()V"⟩, 33), (⟨"DebtBridgeModel", "readPaper", "()V"⟩, 33), (⟨"DebtBridgeModel", "readLaw", "(I)V"⟩, 33), (⟨"DebtBridgeModel", "readSum", "(I)V"⟩, 33), (⟨"DebtBridgeModel", "readTerm", "(I)V"⟩, 33), (⟨"DebtBridgeModel", "readAtom", "(I)V"⟩, 33), (⟨"DebtBridgeModel", "codes", "(I)V"⟩, 33), (⟨"DebtBridgeModel", "wordOf", "(I)I"⟩, 33), (⟨"DebtBridgeModel", "goesIn", "(I)Z"⟩, 33), (⟨"DebtBridgeModel", "readTruth", "(I)V"⟩, 33), (⟨"DebtBridgeModel", "readBoth", "(I)V"⟩, 33), (⟨"DebtBridgeModel", "readUnit", "(I)V"⟩, 33), (⟨"DebtBridgeModel", "breaks", "()V"⟩, 33), (⟨"DebtBridgeModel", "laysNow", "()V"⟩, 33), (⟨"DebtBridgeModel", "isOn", "(I)Z"⟩, 33)]
theorem lw_r5 : ∀ q ∈ lw_privs_5, lw_okq q := List.forall_mem_cons.mpr ⟨lw_p64, List.forall_mem_cons.mpr ⟨lw_p65, List.forall_mem_cons.mpr ⟨lw_p66, List.forall_mem_cons.mpr ⟨lw_p67, List.forall_mem_cons.mpr ⟨lw_p68, List.forall_mem_cons.mpr ⟨lw_p69, List.forall_mem_cons.mpr ⟨lw_p70, List.forall_mem_cons.mpr ⟨lw_p71, List.forall_mem_cons.mpr ⟨lw_p72, List.forall_mem_cons.mpr ⟨lw_p73, List.forall_mem_cons.mpr ⟨lw_p74, List.forall_mem_cons.mpr ⟨lw_p75, List.forall_mem_cons.mpr ⟨lw_p76, List.forall_mem_cons.mpr ⟨lw_p77, List.forall_mem_cons.mpr ⟨lw_p78, List.forall_mem_cons.mpr ⟨lw_p79, fun _ h => absurd h List.not_mem_nil⟩⟩⟩⟩⟩⟩⟩⟩⟩⟩⟩⟩⟩⟩⟩⟩
theorem lw_p80 : lw_okq (⟨"DebtBridgeModel", "weightOf", "(I)I"⟩, 33) := ⟨⟨by decide +kernel, by decide +kernel⟩, List.mem_of_getElem? (i := 1317) (by decide +kernel), List.mem_of_getElem? (i := 1547) (by decide +kernel), List.mem_of_getElem? (i := 1548) (by decide +kernel)⟩
theorem lw_p81 : lw_okq (⟨"DebtBridgeModel", "debtOf", "(I)I"⟩, 33) := ⟨⟨by decide +kernel, by decide +kernel⟩, List.mem_of_getElem? (i := 1317) (by decide +kernel), List.mem_of_getElem? (i := 1551) (by decide +kernel), List.mem_of_getElem? (i := 1552) (by decide +kernel)⟩
theorem lw_p82 : lw_okq (⟨"DebtBridgeModel", "debt", "(II)I"⟩, 33) := ⟨⟨by decide +kernel, by decide +kernel⟩, List.mem_of_getElem? (i := 1317) (by decide +kernel), List.mem_of_getElem? (i := 1555) (by decide +kernel), List.mem_of_getElem? (i := 1556) (by decide +kernel)⟩
theorem lw_p83 : lw_okq (⟨"DebtBridgeModel", "papersOf", "(I)I"⟩, 33) := ⟨⟨by decide +kernel, by decide +kernel⟩, List.mem_of_getElem? (i := 1317) (by decide +kernel), List.mem_of_getElem? (i := 1559) (by decide +kernel), List.mem_of_getElem? (i := 1560) (by decide +kernel)⟩
theorem lw_p84 : lw_okq (⟨"DebtBridgeModel", "owedTo", "(I)I"⟩, 33) := ⟨⟨by decide +kernel, by decide +kernel⟩, List.mem_of_getElem? (i := 1317) (by decide +kernel), List.mem_of_getElem? (i := 1563) (by decide +kernel), List.mem_of_getElem? (i := 1564) (by decide +kernel)⟩
theorem lw_p85 : lw_okq (⟨"DebtBridgeModel", "reckons", "(II)I"⟩, 33) := ⟨⟨by decide +kernel, by decide +kernel⟩, List.mem_of_getElem? (i := 1317) (by decide +kernel), List.mem_of_getElem? (i := 1567) (by decide +kernel), List.mem_of_getElem? (i := 1568) (by decide +kernel)⟩
theorem lw_p86 : lw_okq (⟨"DebtBridgeModel", "firstOver", "()I"⟩, 33) := ⟨⟨by decide +kernel, by decide +kernel⟩, List.mem_of_getElem? (i := 1317) (by decide +kernel), List.mem_of_getElem? (i := 1576) (by decide +kernel), List.mem_of_getElem? (i := 1577) (by decide +kernel)⟩
theorem lw_p87 : lw_okq (⟨"DebtBridgeModel", "loadOf", "(I)I"⟩, 33) := ⟨⟨by decide +kernel, by decide +kernel⟩, List.mem_of_getElem? (i := 1317) (by decide +kernel), List.mem_of_getElem? (i := 1583) (by decide +kernel), List.mem_of_getElem? (i := 1584) (by decide +kernel)⟩
theorem lw_p88 : lw_okq (⟨"DebtBridgeModel", "bearsOf", "(I)I"⟩, 33) := ⟨⟨by decide +kernel, by decide +kernel⟩, List.mem_of_getElem? (i := 1317) (by decide +kernel), List.mem_of_getElem? (i := 1587) (by decide +kernel), List.mem_of_getElem? (i := 1588) (by decide +kernel)⟩
theorem lw_p89 : lw_okq (⟨"DebtBridgeModel", "isPerson", "(J)Z"⟩, 33) := ⟨⟨by decide +kernel, by decide +kernel⟩, List.mem_of_getElem? (i := 1317) (by decide +kernel), List.mem_of_getElem? (i := 1599) (by decide +kernel), List.mem_of_getElem? (i := 1600) (by decide +kernel)⟩
theorem lw_p90 : lw_okq (⟨"DebtBridgeModel", "isPlank", "(J)Z"⟩, 33) := ⟨⟨by decide +kernel, by decide +kernel⟩, List.mem_of_getElem? (i := 1317) (by decide +kernel), List.mem_of_getElem? (i := 1611) (by decide +kernel), List.mem_of_getElem? (i := 1612) (by decide +kernel)⟩
theorem lw_p91 : lw_okq (⟨"DebtBridgeModel", "keeps", "()V"⟩, 33) := ⟨⟨by decide +kernel, by decide +kernel⟩, List.mem_of_getElem? (i := 1317) (by decide +kernel), List.mem_of_getElem? (i := 1619) (by decide +kernel), List.mem_of_getElem? (i := 1620) (by decide +kernel)⟩
theorem lw_p92 : lw_okq (⟨"DebtBridgeModel", "notes", "()V"⟩, 33) := ⟨⟨by decide +kernel, by decide +kernel⟩, List.mem_of_getElem? (i := 1317) (by decide +kernel), List.mem_of_getElem? (i := 1623) (by decide +kernel), List.mem_of_getElem? (i := 1624) (by decide +kernel)⟩
theorem lw_p93 : lw_okq (⟨"DebtBridgeModel", "whyStep", "(JI)I"⟩, 33) := ⟨⟨by decide +kernel, by decide +kernel⟩, List.mem_of_getElem? (i := 1317) (by decide +kernel), List.mem_of_getElem? (i := 1631) (by decide +kernel), List.mem_of_getElem? (i := 1632) (by decide +kernel)⟩
theorem lw_p94 : lw_okq (⟨"DebtBridgeModel", "isFallen", "(I)Z"⟩, 33) := ⟨⟨by decide +kernel, by decide +kernel⟩, List.mem_of_getElem? (i := 1317) (by decide +kernel), List.mem_of_getElem? (i := 1635) (by decide +kernel), List.mem_of_getElem? (i := 1636) (by decide +kernel)⟩
theorem lw_p95 : lw_okq (⟨"DebtBridgeModel", "isPlankBroken", "(I)Z"⟩, 33) := ⟨⟨by decide +kernel, by decide +kernel⟩, List.mem_of_getElem? (i := 1317) (by decide +kernel), List.mem_of_getElem? (i := 1639) (by decide +kernel), List.mem_of_getElem? (i := 1640) (by decide +kernel)⟩
def lw_privs_6 : List (MethodName × Nat) := [(⟨"DebtBridgeModel", "weightOf", "(I)I"⟩, 33), (⟨"DebtBridgeModel", "debtOf", "(I)I"⟩, 33), (⟨"DebtBridgeModel", "debt", "(II)I"⟩, 33), (⟨"DebtBridgeModel", "papersOf", "(I)I"⟩, 33), (⟨"DebtBridgeModel", "owedTo", "(I)I"⟩, 33), (⟨"DebtBridgeModel", "reckons", "(II)I"⟩, 33), (⟨"DebtBridgeModel", "firstOver", "()I"⟩, 33), (⟨"DebtBridgeModel", "loadOf", "(I)I"⟩, 33), (⟨"DebtBridgeModel", "bearsOf", "(I)I"⟩, 33), (⟨"DebtBridgeModel", "isPerson", "(J)Z"⟩, 33), (⟨"DebtBridgeModel", "isPlank", "(J)Z"⟩, 33), (⟨"DebtBridgeModel", "keeps", "()V"⟩, 33), (⟨"DebtBridgeModel", "notes", "()V"⟩, 33), (⟨"DebtBridgeModel", "whyStep", "(JI)I"⟩, 33), (⟨"DebtBridgeModel", "isFallen", "(I)Z"⟩, 33), (⟨"DebtBridgeModel", "isPlankBroken", "(I)Z"⟩, 33)]
theorem lw_r6 : ∀ q ∈ lw_privs_6, lw_okq q := List.forall_mem_cons.mpr ⟨lw_p80, List.forall_mem_cons.mpr ⟨lw_p81, List.forall_mem_cons.mpr ⟨lw_p82, List.forall_mem_cons.mpr ⟨lw_p83, List.forall_mem_cons.mpr ⟨lw_p84, List.forall_mem_cons.mpr ⟨lw_p85, List.forall_mem_cons.mpr ⟨lw_p86, List.forall_mem_cons.mpr ⟨lw_p87, List.forall_mem_cons.mpr ⟨lw_p88, List.forall_mem_cons.mpr ⟨lw_p89, List.forall_mem_cons.mpr ⟨lw_p90, List.forall_mem_cons.mpr ⟨lw_p91, List.forall_mem_cons.mpr ⟨lw_p92, List.forall_mem_cons.mpr ⟨lw_p93, List.forall_mem_cons.mpr ⟨lw_p94, List.forall_mem_cons.mpr ⟨lw_p95, fun _ h => absurd h List.not_mem_nil⟩⟩⟩⟩⟩⟩⟩⟩⟩⟩⟩⟩⟩⟩⟩⟩
theorem lw_p96 : lw_okq (⟨"DebtBridgeModel", "mayGo", "(II)Z"⟩, 33) := ⟨⟨by decide +kernel, by decide +kernel⟩, List.mem_of_getElem? (i := 1317) (by decide +kernel), List.mem_of_getElem? (i := 1643) (by decide +kernel), List.mem_of_getElem? (i := 1644) (by decide +kernel)⟩
theorem lw_p97 : lw_okq (⟨"DebtBridgeModel", "othersOn", "(I)I"⟩, 33) := ⟨⟨by decide +kernel, by decide +kernel⟩, List.mem_of_getElem? (i := 1317) (by decide +kernel), List.mem_of_getElem? (i := 1647) (by decide +kernel), List.mem_of_getElem? (i := 1648) (by decide +kernel)⟩
theorem lw_p98 : lw_okq (⟨"DebtBridgeModel", "mayCome", "(III)Z"⟩, 33) := ⟨⟨by decide +kernel, by decide +kernel⟩, List.mem_of_getElem? (i := 1317) (by decide +kernel), List.mem_of_getElem? (i := 1651) (by decide +kernel), List.mem_of_getElem? (i := 1652) (by decide +kernel)⟩
theorem lw_p99 : lw_okq (⟨"DebtBridgeModel", "isTied", "(I)Z"⟩, 33) := ⟨⟨by decide +kernel, by decide +kernel⟩, List.mem_of_getElem? (i := 1317) (by decide +kernel), List.mem_of_getElem? (i := 1655) (by decide +kernel), List.mem_of_getElem? (i := 1656) (by decide +kernel)⟩
theorem lw_p100 : lw_okq (⟨"DebtBridgeModel", "goes", "(II)V"⟩, 33) := ⟨⟨by decide +kernel, by decide +kernel⟩, List.mem_of_getElem? (i := 1317) (by decide +kernel), List.mem_of_getElem? (i := 1659) (by decide +kernel), List.mem_of_getElem? (i := 1660) (by decide +kernel)⟩
theorem lw_p101 : lw_okq (⟨"DebtBridgeModel", "whyHand", "(JJ)I"⟩, 33) := ⟨⟨by decide +kernel, by decide +kernel⟩, List.mem_of_getElem? (i := 1317) (by decide +kernel), List.mem_of_getElem? (i := 1667) (by decide +kernel), List.mem_of_getElem? (i := 1668) (by decide +kernel)⟩
theorem lw_p102 : lw_okq (⟨"DebtBridgeModel", "areTwo", "(JJ)Z"⟩, 33) := ⟨⟨by decide +kernel, by decide +kernel⟩, List.mem_of_getElem? (i := 1317) (by decide +kernel), List.mem_of_getElem? (i := 1671) (by decide +kernel), List.mem_of_getElem? (i := 1672) (by decide +kernel)⟩
theorem lw_p103 : lw_okq (⟨"DebtBridgeModel", "goesBoth", "(II)V"⟩, 33) := ⟨⟨by decide +kernel, by decide +kernel⟩, List.mem_of_getElem? (i := 1317) (by decide +kernel), List.mem_of_getElem? (i := 1675) (by decide +kernel), List.mem_of_getElem? (i := 1676) (by decide +kernel)⟩
theorem lw_p104 : lw_okq (⟨"DebtBridgeModel", "whyTear", "(JJ)I"⟩, 33) := ⟨⟨by decide +kernel, by decide +kernel⟩, List.mem_of_getElem? (i := 1317) (by decide +kernel), List.mem_of_getElem? (i := 1683) (by decide +kernel), List.mem_of_getElem? (i := 1684) (by decide +kernel)⟩
theorem lw_p105 : lw_okq (⟨"DebtBridgeModel", "tears1", "(II)V"⟩, 33) := ⟨⟨by decide +kernel, by decide +kernel⟩, List.mem_of_getElem? (i := 1317) (by decide +kernel), List.mem_of_getElem? (i := 1687) (by decide +kernel), List.mem_of_getElem? (i := 1688) (by decide +kernel)⟩
theorem lw_p106 : lw_okq (⟨"DebtBridgeModel", "noTray", "(I)I"⟩, 33) := ⟨⟨by decide +kernel, by decide +kernel⟩, List.mem_of_getElem? (i := 1317) (by decide +kernel), List.mem_of_getElem? (i := 1695) (by decide +kernel), List.mem_of_getElem? (i := 1696) (by decide +kernel)⟩
theorem lw_p107 : lw_okq (⟨"DebtBridgeModel", "laysPeople", "(I)Z"⟩, 33) := ⟨⟨by decide +kernel, by decide +kernel⟩, List.mem_of_getElem? (i := 1317) (by decide +kernel), List.mem_of_getElem? (i := 1702) (by decide +kernel), List.mem_of_getElem? (i := 1703) (by decide +kernel)⟩
theorem lw_p108 : lw_okq (⟨"DebtBridgeModel", "leastOf", "()I"⟩, 33) := ⟨⟨by decide +kernel, by decide +kernel⟩, List.mem_of_getElem? (i := 1317) (by decide +kernel), List.mem_of_getElem? (i := 1706) (by decide +kernel), List.mem_of_getElem? (i := 1707) (by decide +kernel)⟩
theorem lw_p109 : lw_okq (⟨"DebtBridgeModel", "whyMend", "(J)I"⟩, 33) := ⟨⟨by decide +kernel, by decide +kernel⟩, List.mem_of_getElem? (i := 1317) (by decide +kernel), List.mem_of_getElem? (i := 1715) (by decide +kernel), List.mem_of_getElem? (i := 1716) (by decide +kernel)⟩
theorem lw_p110 : lw_okq (⟨"DebtBridgeModel", "mends1", "(I)V"⟩, 33) := ⟨⟨by decide +kernel, by decide +kernel⟩, List.mem_of_getElem? (i := 1317) (by decide +kernel), List.mem_of_getElem? (i := 1719) (by decide +kernel), List.mem_of_getElem? (i := 1720) (by decide +kernel)⟩
theorem lw_p111 : lw_okq (⟨"DebtBridgeModel", "goesDay", "()I"⟩, 33) := ⟨⟨by decide +kernel, by decide +kernel⟩, List.mem_of_getElem? (i := 1317) (by decide +kernel), List.mem_of_getElem? (i := 1728) (by decide +kernel), List.mem_of_getElem? (i := 1729) (by decide +kernel)⟩
def lw_privs_7 : List (MethodName × Nat) := [(⟨"DebtBridgeModel", "mayGo", "(II)Z"⟩, 33), (⟨"DebtBridgeModel", "othersOn", "(I)I"⟩, 33), (⟨"DebtBridgeModel", "mayCome", "(III)Z"⟩, 33), (⟨"DebtBridgeModel", "isTied", "(I)Z"⟩, 33), (⟨"DebtBridgeModel", "goes", "(II)V"⟩, 33), (⟨"DebtBridgeModel", "whyHand", "(JJ)I"⟩, 33), (⟨"DebtBridgeModel", "areTwo", "(JJ)Z"⟩, 33), (⟨"DebtBridgeModel", "goesBoth", "(II)V"⟩, 33), (⟨"DebtBridgeModel", "whyTear", "(JJ)I"⟩, 33), (⟨"DebtBridgeModel", "tears1", "(II)V"⟩, 33), (⟨"DebtBridgeModel", "noTray", "(I)I"⟩, 33), (⟨"DebtBridgeModel", "laysPeople", "(I)Z"⟩, 33), (⟨"DebtBridgeModel", "leastOf", "()I"⟩, 33), (⟨"DebtBridgeModel", "whyMend", "(J)I"⟩, 33), (⟨"DebtBridgeModel", "mends1", "(I)V"⟩, 33), (⟨"DebtBridgeModel", "goesDay", "()I"⟩, 33)]
theorem lw_r7 : ∀ q ∈ lw_privs_7, lw_okq q := List.forall_mem_cons.mpr ⟨lw_p96, List.forall_mem_cons.mpr ⟨lw_p97, List.forall_mem_cons.mpr ⟨lw_p98, List.forall_mem_cons.mpr ⟨lw_p99, List.forall_mem_cons.mpr ⟨lw_p100, List.forall_mem_cons.mpr ⟨lw_p101, List.forall_mem_cons.mpr ⟨lw_p102, List.forall_mem_cons.mpr ⟨lw_p103, List.forall_mem_cons.mpr ⟨lw_p104, List.forall_mem_cons.mpr ⟨lw_p105, List.forall_mem_cons.mpr ⟨lw_p106, List.forall_mem_cons.mpr ⟨lw_p107, List.forall_mem_cons.mpr ⟨lw_p108, List.forall_mem_cons.mpr ⟨lw_p109, List.forall_mem_cons.mpr ⟨lw_p110, List.forall_mem_cons.mpr ⟨lw_p111, fun _ h => absurd h List.not_mem_nil⟩⟩⟩⟩⟩⟩⟩⟩⟩⟩⟩⟩⟩⟩⟩⟩
theorem lw_p112 : lw_okq (⟨"DebtBridgeModel", "draw", "(I)I"⟩, 33) := ⟨⟨by decide +kernel, by decide +kernel⟩, List.mem_of_getElem? (i := 1317) (by decide +kernel), List.mem_of_getElem? (i := 1732) (by decide +kernel), List.mem_of_getElem? (i := 1733) (by decide +kernel)⟩
theorem lw_p113 : lw_okq (⟨"DebtBridgeModel", "tells", "(I)I"⟩, 33) := ⟨⟨by decide +kernel, by decide +kernel⟩, List.mem_of_getElem? (i := 1317) (by decide +kernel), List.mem_of_getElem? (i := 1746) (by decide +kernel), List.mem_of_getElem? (i := 1747) (by decide +kernel)⟩
theorem lw_p114 : lw_okq (⟨"DebtBridgeModel", "whyNot", "(J)I"⟩, 33) := ⟨⟨by decide +kernel, by decide +kernel⟩, List.mem_of_getElem? (i := 1317) (by decide +kernel), List.mem_of_getElem? (i := 1750) (by decide +kernel), List.mem_of_getElem? (i := 1751) (by decide +kernel)⟩
theorem lw_p115 : lw_okq (⟨"DebtBridgeModel", "does", "(I)V"⟩, 33) := ⟨⟨by decide +kernel, by decide +kernel⟩, List.mem_of_getElem? (i := 1317) (by decide +kernel), List.mem_of_getElem? (i := 1763) (by decide +kernel), List.mem_of_getElem? (i := 1764) (by decide +kernel)⟩
theorem lw_p116 : lw_okq (⟨"DebtBridgeModel", "fallen", "()I"⟩, 33) := ⟨⟨by decide +kernel, by decide +kernel⟩, List.mem_of_getElem? (i := 1317) (by decide +kernel), List.mem_of_getElem? (i := 1767) (by decide +kernel), List.mem_of_getElem? (i := 1768) (by decide +kernel)⟩
theorem lw_p117 : lw_okq (⟨"DebtBridgeModel", "onEast", "()I"⟩, 33) := ⟨⟨by decide +kernel, by decide +kernel⟩, List.mem_of_getElem? (i := 1317) (by decide +kernel), List.mem_of_getElem? (i := 1771) (by decide +kernel), List.mem_of_getElem? (i := 1772) (by decide +kernel)⟩
theorem lw_p118 : lw_okq (⟨"DebtBridgeModel", "isAgain", "()V"⟩, 33) := ⟨⟨by decide +kernel, by decide +kernel⟩, List.mem_of_getElem? (i := 1317) (by decide +kernel), List.mem_of_getElem? (i := 1775) (by decide +kernel), List.mem_of_getElem? (i := 1776) (by decide +kernel)⟩
theorem lw_p119 : lw_okq (⟨"DebtBridgeModel", "drawn", "()I"⟩, 33) := ⟨⟨by decide +kernel, by decide +kernel⟩, List.mem_of_getElem? (i := 1317) (by decide +kernel), List.mem_of_getElem? (i := 1788) (by decide +kernel), List.mem_of_getElem? (i := 1789) (by decide +kernel)⟩
theorem lw_p120 : lw_okq (⟨"DebtBridgeModel", "stops", "(I)I"⟩, 33) := ⟨⟨by decide +kernel, by decide +kernel⟩, List.mem_of_getElem? (i := 1317) (by decide +kernel), List.mem_of_getElem? (i := 1796) (by decide +kernel), List.mem_of_getElem? (i := 1797) (by decide +kernel)⟩
theorem lw_p121 : lw_okq (⟨"DebtBridgeModel", "laysNone", "()V"⟩, 33) := ⟨⟨by decide +kernel, by decide +kernel⟩, List.mem_of_getElem? (i := 1317) (by decide +kernel), List.mem_of_getElem? (i := 1800) (by decide +kernel), List.mem_of_getElem? (i := 1801) (by decide +kernel)⟩
theorem lw_p122 : lw_okq (⟨"DebtBridgeModel", "ableSet", "()I"⟩, 33) := ⟨⟨by decide +kernel, by decide +kernel⟩, List.mem_of_getElem? (i := 1317) (by decide +kernel), List.mem_of_getElem? (i := 1808) (by decide +kernel), List.mem_of_getElem? (i := 1809) (by decide +kernel)⟩
theorem lw_p123 : lw_okq (⟨"DebtBridgeModel", "stopsRow", "(I)I"⟩, 33) := ⟨⟨by decide +kernel, by decide +kernel⟩, List.mem_of_getElem? (i := 1317) (by decide +kernel), List.mem_of_getElem? (i := 1823) (by decide +kernel), List.mem_of_getElem? (i := 1824) (by decide +kernel)⟩
theorem lw_p124 : lw_okq (⟨"DebtBridgeModel", "isSet", "(I)Z"⟩, 33) := ⟨⟨by decide +kernel, by decide +kernel⟩, List.mem_of_getElem? (i := 1317) (by decide +kernel), List.mem_of_getElem? (i := 1831) (by decide +kernel), List.mem_of_getElem? (i := 1832) (by decide +kernel)⟩
theorem lw_p125 : lw_okq (⟨"DebtBridgeModel", "laysRows", "(I)V"⟩, 33) := ⟨⟨by decide +kernel, by decide +kernel⟩, List.mem_of_getElem? (i := 1317) (by decide +kernel), List.mem_of_getElem? (i := 1835) (by decide +kernel), List.mem_of_getElem? (i := 1836) (by decide +kernel)⟩
theorem lw_p126 : lw_okq (⟨"DebtBridgeModel", "goesRows", "(I)V"⟩, 33) := ⟨⟨by decide +kernel, by decide +kernel⟩, List.mem_of_getElem? (i := 1317) (by decide +kernel), List.mem_of_getElem? (i := 1839) (by decide +kernel), List.mem_of_getElem? (i := 1840) (by decide +kernel)⟩
theorem lw_p127 : lw_okq (⟨"DebtBridgeModel", "netOf", "(I)I"⟩, 33) := ⟨⟨by decide +kernel, by decide +kernel⟩, List.mem_of_getElem? (i := 1317) (by decide +kernel), List.mem_of_getElem? (i := 1855) (by decide +kernel), List.mem_of_getElem? (i := 1856) (by decide +kernel)⟩
def lw_privs_8 : List (MethodName × Nat) := [(⟨"DebtBridgeModel", "draw", "(I)I"⟩, 33), (⟨"DebtBridgeModel", "tells", "(I)I"⟩, 33), (⟨"DebtBridgeModel", "whyNot", "(J)I"⟩, 33), (⟨"DebtBridgeModel", "does", "(I)V"⟩, 33), (⟨"DebtBridgeModel", "fallen", "()I"⟩, 33), (⟨"DebtBridgeModel", "onEast", "()I"⟩, 33), (⟨"DebtBridgeModel", "isAgain", "()V"⟩, 33), (⟨"DebtBridgeModel", "drawn", "()I"⟩, 33), (⟨"DebtBridgeModel", "stops", "(I)I"⟩, 33), (⟨"DebtBridgeModel", "laysNone", "()V"⟩, 33), (⟨"DebtBridgeModel", "ableSet", "()I"⟩, 33), (⟨"DebtBridgeModel", "stopsRow", "(I)I"⟩, 33), (⟨"DebtBridgeModel", "isSet", "(I)Z"⟩, 33), (⟨"DebtBridgeModel", "laysRows", "(I)V"⟩, 33), (⟨"DebtBridgeModel", "goesRows", "(I)V"⟩, 33), (⟨"DebtBridgeModel", "netOf", "(I)I"⟩, 33)]
theorem lw_r8 : ∀ q ∈ lw_privs_8, lw_okq q := List.forall_mem_cons.mpr ⟨lw_p112, List.forall_mem_cons.mpr ⟨lw_p113, List.forall_mem_cons.mpr ⟨lw_p114, List.forall_mem_cons.mpr ⟨lw_p115, List.forall_mem_cons.mpr ⟨lw_p116, List.forall_mem_cons.mpr ⟨lw_p117, List.forall_mem_cons.mpr ⟨lw_p118, List.forall_mem_cons.mpr ⟨lw_p119, List.forall_mem_cons.mpr ⟨lw_p120, List.forall_mem_cons.mpr ⟨lw_p121, List.forall_mem_cons.mpr ⟨lw_p122, List.forall_mem_cons.mpr ⟨lw_p123, List.forall_mem_cons.mpr ⟨lw_p124, List.forall_mem_cons.mpr ⟨lw_p125, List.forall_mem_cons.mpr ⟨lw_p126, List.forall_mem_cons.mpr ⟨lw_p127, fun _ h => absurd h List.not_mem_nil⟩⟩⟩⟩⟩⟩⟩⟩⟩⟩⟩⟩⟩⟩⟩⟩
theorem lw_p128 : lw_okq (⟨"DebtBridgeModel", "groups", "(I)I"⟩, 33) := ⟨⟨by decide +kernel, by decide +kernel⟩, List.mem_of_getElem? (i := 1317) (by decide +kernel), List.mem_of_getElem? (i := 1868) (by decide +kernel), List.mem_of_getElem? (i := 1869) (by decide +kernel)⟩
theorem lw_p129 : lw_okq (⟨"DebtBridgeModel", "sumOf", "(I)I"⟩, 33) := ⟨⟨by decide +kernel, by decide +kernel⟩, List.mem_of_getElem? (i := 1317) (by decide +kernel), List.mem_of_getElem? (i := 1872) (by decide +kernel), List.mem_of_getElem? (i := 1873) (by decide +kernel)⟩
theorem lw_p130 : lw_okq (⟨"DebtBridgeModel", "laysRings", "()V"⟩, 33) := ⟨⟨by decide +kernel, by decide +kernel⟩, List.mem_of_getElem? (i := 1317) (by decide +kernel), List.mem_of_getElem? (i := 1880) (by decide +kernel), List.mem_of_getElem? (i := 1881) (by decide +kernel)⟩
theorem lw_p131 : lw_okq (⟨"DebtBridgeModel", "goesRing", "(I)V"⟩, 33) := ⟨⟨by decide +kernel, by decide +kernel⟩, List.mem_of_getElem? (i := 1317) (by decide +kernel), List.mem_of_getElem? (i := 1884) (by decide +kernel), List.mem_of_getElem? (i := 1885) (by decide +kernel)⟩
theorem lw_p132 : lw_okq (⟨"DebtBridgeModel", "laysRing", "()V"⟩, 33) := ⟨⟨by decide +kernel, by decide +kernel⟩, List.mem_of_getElem? (i := 1317) (by decide +kernel), List.mem_of_getElem? (i := 1888) (by decide +kernel), List.mem_of_getElem? (i := 1889) (by decide +kernel)⟩
theorem lw_p133 : lw_okq (⟨"DebtBridgeModel", "needsAll", "(I)I"⟩, 33) := ⟨⟨by decide +kernel, by decide +kernel⟩, List.mem_of_getElem? (i := 1317) (by decide +kernel), List.mem_of_getElem? (i := 1909) (by decide +kernel), List.mem_of_getElem? (i := 1910) (by decide +kernel)⟩
theorem lw_p134 : lw_okq (⟨"DebtBridgeModel", "needs", "(II)I"⟩, 33) := ⟨⟨by decide +kernel, by decide +kernel⟩, List.mem_of_getElem? (i := 1317) (by decide +kernel), List.mem_of_getElem? (i := 1913) (by decide +kernel), List.mem_of_getElem? (i := 1914) (by decide +kernel)⟩
theorem lw_p135 : lw_okq (⟨"DebtBridgeModel", "noSeen", "(I)I"⟩, 33) := ⟨⟨by decide +kernel, by decide +kernel⟩, List.mem_of_getElem? (i := 1317) (by decide +kernel), List.mem_of_getElem? (i := 1929) (by decide +kernel), List.mem_of_getElem? (i := 1930) (by decide +kernel)⟩
theorem lw_p136 : lw_okq (⟨"DebtBridgeModel", "fits", "(II)Z"⟩, 33) := ⟨⟨by decide +kernel, by decide +kernel⟩, List.mem_of_getElem? (i := 1317) (by decide +kernel), List.mem_of_getElem? (i := 1933) (by decide +kernel), List.mem_of_getElem? (i := 1934) (by decide +kernel)⟩
theorem lw_p137 : lw_okq (⟨"DebtBridgeModel", "chanceOf", "(II)J"⟩, 33) := ⟨⟨by decide +kernel, by decide +kernel⟩, List.mem_of_getElem? (i := 1317) (by decide +kernel), List.mem_of_getElem? (i := 1951) (by decide +kernel), List.mem_of_getElem? (i := 1952) (by decide +kernel)⟩
theorem lw_p138 : lw_okq (⟨"DebtBridgeModel", "onPlanks", "()I"⟩, 33) := ⟨⟨by decide +kernel, by decide +kernel⟩, List.mem_of_getElem? (i := 1317) (by decide +kernel), List.mem_of_getElem? (i := 1993) (by decide +kernel), List.mem_of_getElem? (i := 1994) (by decide +kernel)⟩
theorem lw_p139 : lw_okq (⟨"DebtBridgeModel", "papersAll", "()I"⟩, 33) := ⟨⟨by decide +kernel, by decide +kernel⟩, List.mem_of_getElem? (i := 1317) (by decide +kernel), List.mem_of_getElem? (i := 1997) (by decide +kernel), List.mem_of_getElem? (i := 1998) (by decide +kernel)⟩
theorem lw_p140 : lw_okq (⟨"DebtBridgeModel", "debtAll", "()I"⟩, 33) := ⟨⟨by decide +kernel, by decide +kernel⟩, List.mem_of_getElem? (i := 1317) (by decide +kernel), List.mem_of_getElem? (i := 2001) (by decide +kernel), List.mem_of_getElem? (i := 2002) (by decide +kernel)⟩
def lw_privs_9 : List (MethodName × Nat) := [(⟨"DebtBridgeModel", "groups", "(I)I"⟩, 33), (⟨"DebtBridgeModel", "sumOf", "(I)I"⟩, 33), (⟨"DebtBridgeModel", "laysRings", "()V"⟩, 33), (⟨"DebtBridgeModel", "goesRing", "(I)V"⟩, 33), (⟨"DebtBridgeModel", "laysRing", "()V"⟩, 33), (⟨"DebtBridgeModel", "needsAll", "(I)I"⟩, 33), (⟨"DebtBridgeModel", "needs", "(II)I"⟩, 33), (⟨"DebtBridgeModel", "noSeen", "(I)I"⟩, 33), (⟨"DebtBridgeModel", "fits", "(II)Z"⟩, 33), (⟨"DebtBridgeModel", "chanceOf", "(II)J"⟩, 33), (⟨"DebtBridgeModel", "onPlanks", "()I"⟩, 33), (⟨"DebtBridgeModel", "papersAll", "()I"⟩, 33), (⟨"DebtBridgeModel", "debtAll", "()I"⟩, 33)]
theorem lw_r9 : ∀ q ∈ lw_privs_9, lw_okq q := List.forall_mem_cons.mpr ⟨lw_p128, List.forall_mem_cons.mpr ⟨lw_p129, List.forall_mem_cons.mpr ⟨lw_p130, List.forall_mem_cons.mpr ⟨lw_p131, List.forall_mem_cons.mpr ⟨lw_p132, List.forall_mem_cons.mpr ⟨lw_p133, List.forall_mem_cons.mpr ⟨lw_p134, List.forall_mem_cons.mpr ⟨lw_p135, List.forall_mem_cons.mpr ⟨lw_p136, List.forall_mem_cons.mpr ⟨lw_p137, List.forall_mem_cons.mpr ⟨lw_p138, List.forall_mem_cons.mpr ⟨lw_p139, List.forall_mem_cons.mpr ⟨lw_p140, fun _ h => absurd h List.not_mem_nil⟩⟩⟩⟩⟩⟩⟩⟩⟩⟩⟩⟩⟩
def lw_privs : List (MethodName × Nat) := lw_privs_1 ++ (lw_privs_2 ++ (lw_privs_3 ++ (lw_privs_4 ++ (lw_privs_5 ++ (lw_privs_6 ++ (lw_privs_7 ++ (lw_privs_8 ++ (lw_privs_9))))))))
def lw_tbl : List Cond := k2_sels lw_privs ++ tables_1
theorem lw_privs_ok : ∀ q ∈ lw_privs, lw_okq q := by
  show ∀ q ∈ lw_privs_1 ++ (lw_privs_2 ++ (lw_privs_3 ++ (lw_privs_4 ++ (lw_privs_5 ++ (lw_privs_6 ++ (lw_privs_7 ++ (lw_privs_8 ++ (lw_privs_9)))))))), lw_okq q
  exact List.forall_mem_append.mpr ⟨lw_r1, List.forall_mem_append.mpr ⟨lw_r2, List.forall_mem_append.mpr ⟨lw_r3, List.forall_mem_append.mpr ⟨lw_r4, List.forall_mem_append.mpr ⟨lw_r5, List.forall_mem_append.mpr ⟨lw_r6, List.forall_mem_append.mpr ⟨lw_r7, List.forall_mem_append.mpr ⟨lw_r8, lw_r9⟩⟩⟩⟩⟩⟩⟩⟩
-- ===== end of PART A; then your names; then what follows =====
/-! ===== BEGIN words of one list among another's, by their places ===== -/
theorem goodIn_r {big : List Cond} (ws : List Cond) (ps : List Nat) (hp : ws = ps.filterMap (fun i => big[i]?)) (h : ws.all goodWord = true) : GoodIn big ws := by
  intro w hw
  have h1 := List.all_eq_true.mp h w hw
  rw [hp] at hw
  obtain ⟨i, -, hi⟩ := List.mem_filterMap.mp hw
  have hm : w ∈ big := by first | exact List.mem_of_getElem? hi | exact List.getElem?_mem hi
  exact ⟨hm, good_of_word h1⟩
theorem goodIn_app {big a b : List Cond} (ha : GoodIn big a) (hb : GoodIn big b) : GoodIn big (a ++ b) := fun w h => (List.mem_append.mp h).elim (ha w) (hb w)
theorem goodIn_ca {big a b : List Cond} {c : Cond} (ha : GoodIn big (c :: a)) (hb : GoodIn big b) : GoodIn big (c :: (a ++ b)) := fun w h => (List.mem_cons.mp h).elim (fun e => ha w (List.mem_cons.mpr (Or.inl e))) (fun h => (List.mem_append.mp h).elim (fun h => ha w (List.mem_cons.mpr (Or.inr h))) (hb w))
theorem goodIn_sub {big ws : List Cond} (hm : ∀ w ∈ ws, w ∈ big) (h : ws.all goodWord = true) : GoodIn big ws := fun w hw => ⟨hm w hw, good_of_word (List.all_eq_true.mp h w hw)⟩
/-! ===== END ===== -/

/-! ===== BEGIN printed: names, fields, word lists, decode rows ===== -/
def RX0 : String := "DebtBridge$Deeds"
def TX0 : u_T := fun k => match k with
  | 0 => ("DebtBridge$Deeds", "world", "LDebtBridge$World;", true)
  | 1 => ("DebtBridge$Deeds", "why", "I", false)
  | _ => ("DebtBridge$Deeds", "cancelled", "I", false)
def tyX0 : Nat → FieldType := fun k => match k with
  | 0 => .object "DebtBridge$World"
  | 1 => .int
  | _ => .int
abbrev wsX00 : List Cond := u_ws RX0 TX0 3
theorem nmX0 : ∀ a, a < 3 → ∀ b, b < 3 → a ≠ b → (TX0 a).2.1 ≠ (TX0 b).2.1 := by decide +kernel
theorem tyX0_ok : ∀ k, k < 3 → parseFieldDescriptor (TX0 k).2.2.1 = some (tyX0 k) := by decide +kernel
abbrev cX0_init : ByteArray := prog_2_method_1_code
def yX0_init : MethodName := ⟨RX0, "<init>", "(LDebtBridge$World;)V"⟩
abbrev cX0_stepBy : ByteArray := prog_2_method_2_code
def yX0_stepBy : MethodName := ⟨RX0, "stepBy", "(II)I"⟩
abbrev cX0_goTogether : ByteArray := prog_2_method_3_code
def yX0_goTogether : MethodName := ⟨RX0, "goTogether", "(II)I"⟩
abbrev cX0_canMove : ByteArray := prog_2_method_4_code
def yX0_canMove : MethodName := ⟨RX0, "canMove", "(II)Z"⟩
abbrev cX0_isLet : ByteArray := prog_2_method_5_code
def yX0_isLet : MethodName := ⟨RX0, "isLet", "(II)Z"⟩
abbrev cX0_owesBothWays : ByteArray := prog_2_method_6_code
def yX0_owesBothWays : MethodName := ⟨RX0, "owesBothWays", "(I)Z"⟩
abbrev cX0_tearPaper : ByteArray := prog_2_method_7_code
def yX0_tearPaper : MethodName := ⟨RX0, "tearPaper", "(II)I"⟩
abbrev cX0_cancelRing : ByteArray := prog_2_method_8_code
def yX0_cancelRing : MethodName := ⟨RX0, "cancelRing", "(LDebtBridge$Tray;)I"⟩
abbrev cX0_mendPlank : ByteArray := prog_2_method_9_code
def yX0_mendPlank : MethodName := ⟨RX0, "mendPlank", "(I)I"⟩
abbrev cX0_draw : ByteArray := prog_2_method_10_code
def yX0_draw : MethodName := ⟨RX0, "draw", "()I"⟩
abbrev cX0_passDay : ByteArray := prog_2_method_11_code
def yX0_passDay : MethodName := ⟨RX0, "passDay", "()I"⟩
abbrev cX0_doAll : ByteArray := prog_2_method_12_code
def yX0_doAll : MethodName := ⟨RX0, "doAll", "(LDebtBridge$Tray;)I"⟩
abbrev cX0_doOne : ByteArray := prog_2_method_13_code
def yX0_doOne : MethodName := ⟨RX0, "doOne", "(J)I"⟩
abbrev cX0_doDrawn : ByteArray := prog_2_method_14_code
def yX0_doDrawn : MethodName := ⟨RX0, "doDrawn", "()I"⟩
def RX1 : String := "DebtBridge$Ledger"
def TX1 : u_T := fun k => match k with
  | 0 => ("DebtBridge$Ledger", "world", "LDebtBridge$World;", true)
  | 1 => ("DebtBridge$Ledger", "path", "[I", true)
  | 2 => ("DebtBridge$Ledger", "best", "[I", true)
  | 3 => ("DebtBridge$Ledger", "nets", "[I", true)
  | 4 => ("DebtBridge$Ledger", "groups", "[I", true)
  | 5 => ("DebtBridge$Ledger", "bestSize", "I", false)
  | 6 => ("DebtBridge$Ledger", "bestDebt", "I", false)
  | _ => ("DebtBridge$Ledger", "ringsFound", "I", false)
def tyX1 : Nat → FieldType := fun k => match k with
  | 0 => .object "DebtBridge$World"
  | 1 => .array .int
  | 2 => .array .int
  | 3 => .array .int
  | 4 => .array .int
  | 5 => .int
  | 6 => .int
  | _ => .int
abbrev wsX10 : List Cond := u_ws RX1 TX1 8
theorem nmX1 : ∀ a, a < 8 → ∀ b, b < 8 → a ≠ b → (TX1 a).2.1 ≠ (TX1 b).2.1 := by decide +kernel
theorem tyX1_ok : ∀ k, k < 8 → parseFieldDescriptor (TX1 k).2.2.1 = some (tyX1 k) := by decide +kernel
abbrev cX1_init : ByteArray := prog_3_method_1_code
def yX1_init : MethodName := ⟨RX1, "<init>", "(LDebtBridge$World;)V"⟩
abbrev cX1_netOf : ByteArray := prog_3_method_2_code
def yX1_netOf : MethodName := ⟨RX1, "netOf", "(I)I"⟩
abbrev cX1_coinOfAll : ByteArray := prog_3_method_3_code
def yX1_coinOfAll : MethodName := ⟨RX1, "coinOfAll", "()I"⟩
abbrev cX1_fewestPapers : ByteArray := prog_3_method_4_code
def yX1_fewestPapers : MethodName := ⟨RX1, "fewestPapers", "()I"⟩
abbrev cX1_mostGroups : ByteArray := prog_3_method_5_code
def yX1_mostGroups : MethodName := ⟨RX1, "mostGroups", "(II)I"⟩
abbrev cX1_findRings : ByteArray := prog_3_method_6_code
def yX1_findRings : MethodName := ⟨RX1, "findRings", "()V"⟩
abbrev cX1_follow : ByteArray := prog_3_method_7_code
def yX1_follow : MethodName := ⟨RX1, "follow", "(III)V"⟩
abbrev cX1_close : ByteArray := prog_3_method_8_code
def yX1_close : MethodName := ⟨RX1, "close", "(II)V"⟩
def RX2 : String := "DebtBridge$Past"
def TX2 : u_T := fun k => match k with
  | 0 => ("DebtBridge$Past", "slots", "[LDebtBridge$State;", true)
  | 1 => ("DebtBridge$Past", "eldest", "I", false)
  | _ => ("DebtBridge$Past", "size", "I", false)
def tyX2 : Nat → FieldType := fun k => match k with
  | 0 => .array (.object "DebtBridge$State")
  | 1 => .int
  | _ => .int
abbrev wsX20 : List Cond := u_ws RX2 TX2 3
theorem nmX2 : ∀ a, a < 3 → ∀ b, b < 3 → a ≠ b → (TX2 a).2.1 ≠ (TX2 b).2.1 := by decide +kernel
theorem tyX2_ok : ∀ k, k < 3 → parseFieldDescriptor (TX2 k).2.2.1 = some (tyX2 k) := by decide +kernel
abbrev cX2_init : ByteArray := prog_4_method_1_code
def yX2_init : MethodName := ⟨RX2, "<init>", "()V"⟩
abbrev cX2_forget : ByteArray := prog_4_method_2_code
def yX2_forget : MethodName := ⟨RX2, "forget", "()V"⟩
abbrev cX2_mark : ByteArray := prog_4_method_3_code
def yX2_mark : MethodName := ⟨RX2, "mark", "(LDebtBridge$State;)V"⟩
abbrev cX2_keep : ByteArray := prog_4_method_4_code
def yX2_keep : MethodName := ⟨RX2, "keep", "()V"⟩
abbrev cX2_bringBack : ByteArray := prog_4_method_5_code
def yX2_bringBack : MethodName := ⟨RX2, "bringBack", "(ILDebtBridge$State;)V"⟩
def RX3 : String := "DebtBridge$Plan"
def TX3 : u_T := fun k => match k with
  | 0 => ("DebtBridge$Plan", "bears", "[I", true)
  | 1 => ("DebtBridge$Plan", "places", "[I", true)
  | 2 => ("DebtBridge$Plan", "debts", "[I", true)
  | 3 => ("DebtBridge$Plan", "weighs", "[I", false)
  | 4 => ("DebtBridge$Plan", "lets", "[I", false)
  | 5 => ("DebtBridge$Plan", "planks", "I", false)
  | 6 => ("DebtBridge$Plan", "people", "I", false)
  | 7 => ("DebtBridge$Plan", "snowy", "I", false)
  | 8 => ("DebtBridge$Plan", "firstDay", "I", false)
  | _ => ("DebtBridge$Plan", "lines", "I", false)
def tyX3 : Nat → FieldType := fun k => match k with
  | 0 => .array .int
  | 1 => .array .int
  | 2 => .array .int
  | 3 => .array .int
  | 4 => .array .int
  | 5 => .int
  | 6 => .int
  | 7 => .int
  | 8 => .int
  | _ => .int
abbrev wsX30 : List Cond := u_ws RX3 TX3 10
theorem nmX3 : ∀ a, a < 10 → ∀ b, b < 10 → a ≠ b → (TX3 a).2.1 ≠ (TX3 b).2.1 := by decide +kernel
theorem tyX3_ok : ∀ k, k < 10 → parseFieldDescriptor (TX3 k).2.2.1 = some (tyX3 k) := by decide +kernel
abbrev cX3_init : ByteArray := prog_5_method_1_code
def yX3_init : MethodName := ⟨RX3, "<init>", "()V"⟩
def RX4 : String := "DebtBridge$Reader"
def TX4 : u_T := fun k => match k with
  | 0 => ("DebtBridge$Reader", "text", "[B", true)
  | 1 => ("DebtBridge$Reader", "code", "[I", true)
  | 2 => ("DebtBridge$Reader", "length", "I", false)
  | 3 => ("DebtBridge$Reader", "start", "I", false)
  | 4 => ("DebtBridge$Reader", "end", "I", false)
  | 5 => ("DebtBridge$Reader", "kind", "I", false)
  | 6 => ("DebtBridge$Reader", "number", "I", false)
  | 7 => ("DebtBridge$Reader", "codeSize", "I", false)
  | 8 => ("DebtBridge$Reader", "inWeighs", "Z", false)
  | 9 => ("DebtBridge$Reader", "plan", "LDebtBridge$Plan;", false)
  | 10 => ("DebtBridge$Reader", "fault", "I", false)
  | _ => ("DebtBridge$Reader", "faultPlace", "I", false)
def tyX4 : Nat → FieldType := fun k => match k with
  | 0 => .array .byte
  | 1 => .array .int
  | 2 => .int
  | 3 => .int
  | 4 => .int
  | 5 => .int
  | 6 => .int
  | 7 => .int
  | 8 => .boolean
  | 9 => .object "DebtBridge$Plan"
  | 10 => .int
  | _ => .int
abbrev wsX40 : List Cond := u_ws RX4 TX4 12
theorem nmX4 : ∀ a, a < 12 → ∀ b, b < 12 → a ≠ b → (TX4 a).2.1 ≠ (TX4 b).2.1 := by decide +kernel
theorem tyX4_ok : ∀ k, k < 12 → parseFieldDescriptor (TX4 k).2.2.1 = some (tyX4 k) := by decide +kernel
abbrev cX4_init : ByteArray := prog_6_method_1_code
def yX4_init : MethodName := ⟨RX4, "<init>", "([B)V"⟩
abbrev cX4_read : ByteArray := prog_6_method_2_code
def yX4_read : MethodName := ⟨RX4, "read", "(I)LDebtBridge$Plan;"⟩
abbrev cX4_advance : ByteArray := prog_6_method_3_code
def yX4_advance : MethodName := ⟨RX4, "advance", "()V"⟩
abbrev cX4_refuse : ByteArray := prog_6_method_4_code
def yX4_refuse : MethodName := ⟨RX4, "refuse", "(I)Z"⟩
abbrev cX4_isWord : ByteArray := prog_6_method_5_code
def yX4_isWord : MethodName := ⟨RX4, "isWord", "(Ljava/lang/String;)Z"⟩
abbrev cX4_isSign : ByteArray := prog_6_method_6_code
def yX4_isSign : MethodName := ⟨RX4, "isSign", "(C)Z"⟩
abbrev cX4_takeWord : ByteArray := prog_6_method_7_code
def yX4_takeWord : MethodName := ⟨RX4, "takeWord", "(Ljava/lang/String;)Z"⟩
abbrev cX4_takeSign : ByteArray := prog_6_method_8_code
def yX4_takeSign : MethodName := ⟨RX4, "takeSign", "(C)Z"⟩
abbrev cX4_takeNumber : ByteArray := prog_6_method_9_code
def yX4_takeNumber : MethodName := ⟨RX4, "takeNumber", "(II)I"⟩
abbrev cX4_endLine : ByteArray := prog_6_method_10_code
def yX4_endLine : MethodName := ⟨RX4, "endLine", "()Z"⟩
abbrev cX4_readPlanks : ByteArray := prog_6_method_11_code
def yX4_readPlanks : MethodName := ⟨RX4, "readPlanks", "()Z"⟩
abbrev cX4_readLine : ByteArray := prog_6_method_12_code
def yX4_readLine : MethodName := ⟨RX4, "readLine", "()Z"⟩
abbrev cX4_readPlank : ByteArray := prog_6_method_13_code
def yX4_readPlank : MethodName := ⟨RX4, "readPlank", "()Z"⟩
abbrev cX4_readPerson : ByteArray := prog_6_method_14_code
def yX4_readPerson : MethodName := ⟨RX4, "readPerson", "()Z"⟩
abbrev cX4_readPaper : ByteArray := prog_6_method_15_code
def yX4_readPaper : MethodName := ⟨RX4, "readPaper", "()Z"⟩
abbrev cX4_readSnowy : ByteArray := prog_6_method_16_code
def yX4_readSnowy : MethodName := ⟨RX4, "readSnowy", "()Z"⟩
abbrev cX4_readDay : ByteArray := prog_6_method_17_code
def yX4_readDay : MethodName := ⟨RX4, "readDay", "()Z"⟩
abbrev cX4_readWeighs : ByteArray := prog_6_method_18_code
def yX4_readWeighs : MethodName := ⟨RX4, "readWeighs", "()Z"⟩
abbrev cX4_readLets : ByteArray := prog_6_method_19_code
def yX4_readLets : MethodName := ⟨RX4, "readLets", "()Z"⟩
abbrev cX4_emit : ByteArray := prog_6_method_20_code
def yX4_emit : MethodName := ⟨RX4, "emit", "(I)V"⟩
abbrev cX4_readTruth : ByteArray := prog_6_method_21_code
def yX4_readTruth : MethodName := ⟨RX4, "readTruth", "(I)Z"⟩
abbrev cX4_readBoth : ByteArray := prog_6_method_22_code
def yX4_readBoth : MethodName := ⟨RX4, "readBoth", "(I)Z"⟩
abbrev cX4_readUnit : ByteArray := prog_6_method_23_code
def yX4_readUnit : MethodName := ⟨RX4, "readUnit", "(I)Z"⟩
abbrev cX4_comparison : ByteArray := prog_6_method_24_code
def yX4_comparison : MethodName := ⟨RX4, "comparison", "()I"⟩
abbrev cX4_readSum : ByteArray := prog_6_method_25_code
def yX4_readSum : MethodName := ⟨RX4, "readSum", "(I)Z"⟩
abbrev cX4_readTerm : ByteArray := prog_6_method_26_code
def yX4_readTerm : MethodName := ⟨RX4, "readTerm", "(I)Z"⟩
abbrev cX4_readAtom : ByteArray := prog_6_method_27_code
def yX4_readAtom : MethodName := ⟨RX4, "readAtom", "(I)Z"⟩
abbrev cX4_knownWord : ByteArray := prog_6_method_28_code
def yX4_knownWord : MethodName := ⟨RX4, "knownWord", "()I"⟩
def RX5 : String := "DebtBridge$Reckoner"
def TX5 : u_T := fun k => match k with
  | 0 => ("DebtBridge$Reckoner", "stack", "[I", true)
  | _ => ("DebtBridge$Reckoner", "known", "[I", true)
def tyX5 : Nat → FieldType := fun k => match k with
  | 0 => .array .int
  | _ => .array .int
abbrev wsX50 : List Cond := u_ws RX5 TX5 2
theorem nmX5 : ∀ a, a < 2 → ∀ b, b < 2 → a ≠ b → (TX5 a).2.1 ≠ (TX5 b).2.1 := by decide +kernel
theorem tyX5_ok : ∀ k, k < 2 → parseFieldDescriptor (TX5 k).2.2.1 = some (tyX5 k) := by decide +kernel
abbrev cX5_init : ByteArray := prog_7_method_1_code
def yX5_init : MethodName := ⟨RX5, "<init>", "()V"⟩
abbrev cX5_valueOf : ByteArray := prog_7_method_2_code
def yX5_valueOf : MethodName := ⟨RX5, "valueOf", "([I)I"⟩
abbrev cX5_joined : ByteArray := prog_7_method_3_code
def yX5_joined : MethodName := ⟨RX5, "joined", "(IJJ)J"⟩
def RX6 : String := "DebtBridge$Rows"
def TX6 : u_T := fun k => match k with
  | 0 => ("DebtBridge$Rows", "world", "LDebtBridge$World;", true)
  | 1 => ("DebtBridge$Rows", "who", "[I", true)
  | 2 => ("DebtBridge$Rows", "lag", "[I", true)
  | 3 => ("DebtBridge$Rows", "first", "[I", true)
  | 4 => ("DebtBridge$Rows", "standing", "[I", true)
  | _ => ("DebtBridge$Rows", "found", "I", false)
def tyX6 : Nat → FieldType := fun k => match k with
  | 0 => .object "DebtBridge$World"
  | 1 => .array .int
  | 2 => .array .int
  | 3 => .array .int
  | 4 => .array .int
  | _ => .int
abbrev wsX60 : List Cond := u_ws RX6 TX6 6
theorem nmX6 : ∀ a, a < 6 → ∀ b, b < 6 → a ≠ b → (TX6 a).2.1 ≠ (TX6 b).2.1 := by decide +kernel
theorem tyX6_ok : ∀ k, k < 6 → parseFieldDescriptor (TX6 k).2.2.1 = some (tyX6 k) := by decide +kernel
abbrev cX6_init : ByteArray := prog_8_method_1_code
def yX6_init : MethodName := ⟨RX6, "<init>", "(LDebtBridge$World;)V"⟩
abbrev cX6_walkTray : ByteArray := prog_8_method_2_code
def yX6_walkTray : MethodName := ⟨RX6, "walkTray", "(LDebtBridge$Tray;)I"⟩
abbrev cX6_walkTwo : ByteArray := prog_8_method_3_code
def yX6_walkTwo : MethodName := ⟨RX6, "walkTwo", "(III)I"⟩
abbrev cX6_walk : ByteArray := prog_8_method_4_code
def yX6_walk : MethodName := ⟨RX6, "walk", "(I)I"⟩
abbrev cX6_firstBad : ByteArray := prog_8_method_5_code
def yX6_firstBad : MethodName := ⟨RX6, "firstBad", "()I"⟩
abbrev cX6_weightAt : ByteArray := prog_8_method_6_code
def yX6_weightAt : MethodName := ⟨RX6, "weightAt", "(I)I"⟩
abbrev cX6_search : ByteArray := prog_8_method_7_code
def yX6_search : MethodName := ⟨RX6, "search", "(I)I"⟩
abbrev cX6_fill : ByteArray := prog_8_method_8_code
def yX6_fill : MethodName := ⟨RX6, "fill", "(II)V"⟩
abbrev cX6_isBorne : ByteArray := prog_8_method_9_code
def yX6_isBorne : MethodName := ⟨RX6, "isBorne", "(II)Z"⟩
def RX7 : String := "DebtBridge$State"
def TX7 : u_T := fun k => match k with
  | 0 => ("DebtBridge$State", "place", "[I", true)
  | 1 => ("DebtBridge$State", "debt", "[I", true)
  | 2 => ("DebtBridge$State", "mended", "[I", true)
  | 3 => ("DebtBridge$State", "broken", "I", false)
  | 4 => ("DebtBridge$State", "day", "I", false)
  | 5 => ("DebtBridge$State", "snow", "I", false)
  | _ => ("DebtBridge$State", "x", "I", false)
def tyX7 : Nat → FieldType := fun k => match k with
  | 0 => .array .int
  | 1 => .array .int
  | 2 => .array .int
  | 3 => .int
  | 4 => .int
  | 5 => .int
  | _ => .int
abbrev wsX70 : List Cond := u_ws RX7 TX7 7
theorem nmX7 : ∀ a, a < 7 → ∀ b, b < 7 → a ≠ b → (TX7 a).2.1 ≠ (TX7 b).2.1 := by decide +kernel
theorem tyX7_ok : ∀ k, k < 7 → parseFieldDescriptor (TX7 k).2.2.1 = some (tyX7 k) := by decide +kernel
abbrev cX7_init : ByteArray := prog_9_method_1_code
def yX7_init : MethodName := ⟨RX7, "<init>", "()V"⟩
abbrev cX7_take : ByteArray := prog_9_method_2_code
def yX7_take : MethodName := ⟨RX7, "take", "(LDebtBridge$State;)V"⟩
abbrev cX7_begin : ByteArray := prog_9_method_3_code
def yX7_begin : MethodName := ⟨RX7, "begin", "(LDebtBridge$Plan;)V"⟩
def RX8 : String := "DebtBridge$Tray"
def TX8 : u_T := fun k => match k with
  | 0 => ("DebtBridge$Tray", "values", "[J", true)
  | 1 => ("DebtBridge$Tray", "missing", "Z", false)
  | 2 => ("DebtBridge$Tray", "sort", "I", false)
  | _ => ("DebtBridge$Tray", "size", "I", false)
def tyX8 : Nat → FieldType := fun k => match k with
  | 0 => .array .long
  | 1 => .boolean
  | 2 => .int
  | _ => .int
abbrev wsX80 : List Cond := u_ws RX8 TX8 4
theorem nmX8 : ∀ a, a < 4 → ∀ b, b < 4 → a ≠ b → (TX8 a).2.1 ≠ (TX8 b).2.1 := by decide +kernel
theorem tyX8_ok : ∀ k, k < 4 → parseFieldDescriptor (TX8 k).2.2.1 = some (tyX8 k) := by decide +kernel
abbrev cX8_init : ByteArray := prog_10_method_1_code
def yX8_init : MethodName := ⟨RX8, "<init>", "()V"⟩
abbrev cX8_make : ByteArray := prog_10_method_2_code
def yX8_make : MethodName := ⟨RX8, "make", "(II)V"⟩
abbrev cX8_put : ByteArray := prog_10_method_3_code
def yX8_put : MethodName := ⟨RX8, "put", "(IJ)J"⟩
abbrev cX8_cut : ByteArray := prog_10_method_4_code
def yX8_cut : MethodName := ⟨RX8, "cut", "(J)J"⟩
abbrev cX8_holdsPeople : ByteArray := prog_10_method_5_code
def yX8_holdsPeople : MethodName := ⟨RX8, "holdsPeople", "(I)Z"⟩
abbrev cX8_personAt : ByteArray := prog_10_method_6_code
def yX8_personAt : MethodName := ⟨RX8, "personAt", "(I)I"⟩
def RX9 : String := "DebtBridge$Trials"
def TX9 : u_T := fun k => match k with
  | 0 => ("DebtBridge$Trials", "live", "LDebtBridge$World;", true)
  | 1 => ("DebtBridge$Trials", "trial", "LDebtBridge$World;", true)
  | 2 => ("DebtBridge$Trials", "papers", "[I", true)
  | 3 => ("DebtBridge$Trials", "paperWeights", "[I", true)
  | 4 => ("DebtBridge$Trials", "found", "I", false)
  | 5 => ("DebtBridge$Trials", "person", "I", false)
  | 6 => ("DebtBridge$Trials", "ways", "J", false)
  | _ => ("DebtBridge$Trials", "fails", "J", false)
def tyX9 : Nat → FieldType := fun k => match k with
  | 0 => .object "DebtBridge$World"
  | 1 => .object "DebtBridge$World"
  | 2 => .array .int
  | 3 => .array .int
  | 4 => .int
  | 5 => .int
  | 6 => .long
  | _ => .long
abbrev wsX90 : List Cond := u_ws RX9 TX9 8
theorem nmX9 : ∀ a, a < 8 → ∀ b, b < 8 → a ≠ b → (TX9 a).2.1 ≠ (TX9 b).2.1 := by decide +kernel
theorem tyX9_ok : ∀ k, k < 8 → parseFieldDescriptor (TX9 k).2.2.1 = some (tyX9 k) := by decide +kernel
abbrev cX9_init : ByteArray := prog_11_method_1_code
def yX9_init : MethodName := ⟨RX9, "<init>", "(LDebtBridge$World;LDebtBridge$World;)V"⟩
abbrev cX9_fewestTorn : ByteArray := prog_11_method_2_code
def yX9_fewestTorn : MethodName := ⟨RX9, "fewestTorn", "(I)I"⟩
abbrev cX9_getsOverWithout : ByteArray := prog_11_method_3_code
def yX9_getsOverWithout : MethodName := ⟨RX9, "getsOverWithout", "(II)Z"⟩
abbrev cX9_bestForgiven : ByteArray := prog_11_method_4_code
def yX9_bestForgiven : MethodName := ⟨RX9, "bestForgiven", "()I"⟩
abbrev cX9_findTorn : ByteArray := prog_11_method_5_code
def yX9_findTorn : MethodName := ⟨RX9, "findTorn", "(LDebtBridge$Tray;)I"⟩
abbrev cX9_looksLike : ByteArray := prog_11_method_6_code
def yX9_looksLike : MethodName := ⟨RX9, "looksLike", "(LDebtBridge$Tray;)Z"⟩
abbrev cX9_tellsMost : ByteArray := prog_11_method_7_code
def yX9_tellsMost : MethodName := ⟨RX9, "tellsMost", "()I"⟩
abbrev cX9_mostAlike : ByteArray := prog_11_method_8_code
def yX9_mostAlike : MethodName := ⟨RX9, "mostAlike", "(I)I"⟩
abbrev cX9_startChance : ByteArray := prog_11_method_9_code
def yX9_startChance : MethodName := ⟨RX9, "startChance", "(I)V"⟩
abbrev cX9_addDay : ByteArray := prog_11_method_10_code
def yX9_addDay : MethodName := ⟨RX9, "addDay", "(I)V"⟩
abbrev cX9_stopsIf : ByteArray := prog_11_method_11_code
def yX9_stopsIf : MethodName := ⟨RX9, "stopsIf", "(I)Z"⟩
abbrev cX9_commonPart : ByteArray := prog_11_method_12_code
def yX9_commonPart : MethodName := ⟨RX9, "commonPart", "(JJ)J"⟩
def RX10 : String := "DebtBridge$World"
def TX10 : u_T := fun k => match k with
  | 0 => ("DebtBridge$World", "state", "LDebtBridge$State;", true)
  | 1 => ("DebtBridge$World", "reckoner", "LDebtBridge$Reckoner;", true)
  | 2 => ("DebtBridge$World", "weights", "[I", true)
  | _ => ("DebtBridge$World", "plan", "LDebtBridge$Plan;", false)
def tyX10 : Nat → FieldType := fun k => match k with
  | 0 => .object "DebtBridge$State"
  | 1 => .object "DebtBridge$Reckoner"
  | 2 => .array .int
  | _ => .object "DebtBridge$Plan"
abbrev wsX100 : List Cond := u_ws RX10 TX10 4
theorem nmX10 : ∀ a, a < 4 → ∀ b, b < 4 → a ≠ b → (TX10 a).2.1 ≠ (TX10 b).2.1 := by decide +kernel
theorem tyX10_ok : ∀ k, k < 4 → parseFieldDescriptor (TX10 k).2.2.1 = some (tyX10 k) := by decide +kernel
abbrev cX10_init : ByteArray := prog_12_method_1_code
def yX10_init : MethodName := ⟨RX10, "<init>", "()V"⟩
abbrev cX10_begin : ByteArray := prog_12_method_2_code
def yX10_begin : MethodName := ⟨RX10, "begin", "(LDebtBridge$Plan;)V"⟩
abbrev cX10_take : ByteArray := prog_12_method_3_code
def yX10_take : MethodName := ⟨RX10, "take", "(LDebtBridge$World;)V"⟩
abbrev cX10_isPerson : ByteArray := prog_12_method_4_code
def yX10_isPerson : MethodName := ⟨RX10, "isPerson", "(I)Z"⟩
abbrev cX10_isPlank : ByteArray := prog_12_method_5_code
def yX10_isPlank : MethodName := ⟨RX10, "isPlank", "(I)Z"⟩
abbrev cX10_isBroken : ByteArray := prog_12_method_6_code
def yX10_isBroken : MethodName := ⟨RX10, "isBroken", "(I)Z"⟩
abbrev cX10_owing : ByteArray := prog_12_method_7_code
def yX10_owing : MethodName := ⟨RX10, "owing", "(II)I"⟩
abbrev cX10_setOwing : ByteArray := prog_12_method_8_code
def yX10_setOwing : MethodName := ⟨RX10, "setOwing", "(III)V"⟩
abbrev cX10_debtOf : ByteArray := prog_12_method_9_code
def yX10_debtOf : MethodName := ⟨RX10, "debtOf", "(I)I"⟩
abbrev cX10_papersOf : ByteArray := prog_12_method_10_code
def yX10_papersOf : MethodName := ⟨RX10, "papersOf", "(I)I"⟩
abbrev cX10_owedTo : ByteArray := prog_12_method_11_code
def yX10_owedTo : MethodName := ⟨RX10, "owedTo", "(I)I"⟩
abbrev cX10_weightOf : ByteArray := prog_12_method_12_code
def yX10_weightOf : MethodName := ⟨RX10, "weightOf", "(I)I"⟩
abbrev cX10_knowToday : ByteArray := prog_12_method_13_code
def yX10_knowToday : MethodName := ⟨RX10, "knowToday", "(I)V"⟩
abbrev cX10_mayCome : ByteArray := prog_12_method_14_code
def yX10_mayCome : MethodName := ⟨RX10, "mayCome", "(IIII)Z"⟩
abbrev cX10_weighAll : ByteArray := prog_12_method_15_code
def yX10_weighAll : MethodName := ⟨RX10, "weighAll", "()V"⟩
abbrev cX10_loadOf : ByteArray := prog_12_method_16_code
def yX10_loadOf : MethodName := ⟨RX10, "loadOf", "(I)I"⟩
abbrev cX10_bearing : ByteArray := prog_12_method_17_code
def yX10_bearing : MethodName := ⟨RX10, "bearing", "(I)I"⟩
abbrev cX10_breakPlanks : ByteArray := prog_12_method_18_code
def yX10_breakPlanks : MethodName := ⟨RX10, "breakPlanks", "()V"⟩
abbrev cX10_firstToBreak : ByteArray := prog_12_method_19_code
def yX10_firstToBreak : MethodName := ⟨RX10, "firstToBreak", "()I"⟩
abbrev cX10_stopAlone : ByteArray := prog_12_method_20_code
def yX10_stopAlone : MethodName := ⟨RX10, "stopAlone", "(I)I"⟩
abbrev cX10_ableBits : ByteArray := prog_12_method_21_code
def yX10_ableBits : MethodName := ⟨RX10, "ableBits", "()I"⟩
abbrev cX10_mendsNeeded : ByteArray := prog_12_method_22_code
def yX10_mendsNeeded : MethodName := ⟨RX10, "mendsNeeded", "(II)I"⟩
abbrev cX10_fallenBits : ByteArray := prog_12_method_23_code
def yX10_fallenBits : MethodName := ⟨RX10, "fallenBits", "()I"⟩
abbrev cX10_eastBits : ByteArray := prog_12_method_24_code
def yX10_eastBits : MethodName := ⟨RX10, "eastBits", "()I"⟩
abbrev cX10_bitsAt : ByteArray := prog_12_method_25_code
def yX10_bitsAt : MethodName := ⟨RX10, "bitsAt", "(I)I"⟩
abbrev cX10_onPlanksBits : ByteArray := prog_12_method_26_code
def yX10_onPlanksBits : MethodName := ⟨RX10, "onPlanksBits", "()I"⟩
abbrev cX10_allPapers : ByteArray := prog_12_method_27_code
def yX10_allPapers : MethodName := ⟨RX10, "allPapers", "()I"⟩
abbrev cX10_allDebt : ByteArray := prog_12_method_28_code
def yX10_allDebt : MethodName := ⟨RX10, "allDebt", "()I"⟩
def RX11 : String := "DebtBridge"
def TX11 : u_T := fun k => match k with
  | 0 => ("DebtBridge", "tape", "[B", true)
  | 1 => ("DebtBridge", "reader", "LDebtBridge$Reader;", true)
  | 2 => ("DebtBridge", "live", "LDebtBridge$World;", true)
  | 3 => ("DebtBridge", "trial", "LDebtBridge$World;", true)
  | 4 => ("DebtBridge", "deeds", "LDebtBridge$Deeds;", true)
  | 5 => ("DebtBridge", "trialDeeds", "LDebtBridge$Deeds;", true)
  | 6 => ("DebtBridge", "past", "LDebtBridge$Past;", true)
  | 7 => ("DebtBridge", "rows", "LDebtBridge$Rows;", true)
  | 8 => ("DebtBridge", "ledger", "LDebtBridge$Ledger;", true)
  | 9 => ("DebtBridge", "trials", "LDebtBridge$Trials;", true)
  | 10 => ("DebtBridge", "trays", "[LDebtBridge$Tray;", true)
  | 11 => ("DebtBridge", "images", "[LDebtBridge$World;", true)
  | 12 => ("DebtBridge", "imageMade", "[Z", true)
  | _ => ("DebtBridge", "tapeSize", "I", false)
def tyX11 : Nat → FieldType := fun k => match k with
  | 0 => .array .byte
  | 1 => .object "DebtBridge$Reader"
  | 2 => .object "DebtBridge$World"
  | 3 => .object "DebtBridge$World"
  | 4 => .object "DebtBridge$Deeds"
  | 5 => .object "DebtBridge$Deeds"
  | 6 => .object "DebtBridge$Past"
  | 7 => .object "DebtBridge$Rows"
  | 8 => .object "DebtBridge$Ledger"
  | 9 => .object "DebtBridge$Trials"
  | 10 => .array (.object "DebtBridge$Tray")
  | 11 => .array (.object "DebtBridge$World")
  | 12 => .array .boolean
  | _ => .int
abbrev wsX110 : List Cond := u_ws RX11 TX11 14
theorem nmX11 : ∀ a, a < 14 → ∀ b, b < 14 → a ≠ b → (TX11 a).2.1 ≠ (TX11 b).2.1 := by decide +kernel
theorem tyX11_ok : ∀ k, k < 14 → parseFieldDescriptor (TX11 k).2.2.1 = some (tyX11 k) := by decide +kernel
abbrev cX11_init : ByteArray := prog_1_method_1_code
def yX11_init : MethodName := ⟨RX11, "<init>", "()V"⟩
abbrev cX11_feed : ByteArray := prog_1_method_2_code
def yX11_feed : MethodName := ⟨RX11, "feed", "(IIIII)I"⟩
abbrev cX11_feedInt : ByteArray := prog_1_method_3_code
def yX11_feedInt : MethodName := ⟨RX11, "feedInt", "(I)V"⟩
abbrev cX11_bridge : ByteArray := prog_1_method_4_code
def yX11_bridge : MethodName := ⟨RX11, "bridge", "(I)I"⟩
abbrev cX11_fault : ByteArray := prog_1_method_5_code
def yX11_fault : MethodName := ⟨RX11, "fault", "(I)I"⟩
abbrev cX11_person : ByteArray := prog_1_method_6_code
def yX11_person : MethodName := ⟨RX11, "person", "(II)I"⟩
abbrev cX11_owes : ByteArray := prog_1_method_7_code
def yX11_owes : MethodName := ⟨RX11, "owes", "(II)I"⟩
abbrev cX11_plank : ByteArray := prog_1_method_8_code
def yX11_plank : MethodName := ⟨RX11, "plank", "(II)I"⟩
abbrev cX11_seed : ByteArray := prog_1_method_9_code
def yX11_seed : MethodName := ⟨RX11, "seed", "(I)I"⟩
abbrev cX11_step : ByteArray := prog_1_method_10_code
def yX11_step : MethodName := ⟨RX11, "step", "(IZ)I"⟩
abbrev cX11_hand : ByteArray := prog_1_method_11_code
def yX11_hand : MethodName := ⟨RX11, "hand", "(II)I"⟩
abbrev cX11_tear : ByteArray := prog_1_method_12_code
def yX11_tear : MethodName := ⟨RX11, "tear", "(II)I"⟩
abbrev cX11_cancel : ByteArray := prog_1_method_13_code
def yX11_cancel : MethodName := ⟨RX11, "cancel", "(I)I"⟩
abbrev cX11_mend : ByteArray := prog_1_method_14_code
def yX11_mend : MethodName := ⟨RX11, "mend", "(I)I"⟩
abbrev cX11_ended : ByteArray := prog_1_method_15_code
def yX11_ended : MethodName := ⟨RX11, "ended", "(I)Z"⟩
abbrev cX11_days : ByteArray := prog_1_method_16_code
def yX11_days : MethodName := ⟨RX11, "days", "(I)I"⟩
abbrev cX11_undo : ByteArray := prog_1_method_17_code
def yX11_undo : MethodName := ⟨RX11, "undo", "(I)I"⟩
abbrev cX11_judge : ByteArray := prog_1_method_18_code
def yX11_judge : MethodName := ⟨RX11, "judge", "(II)I"⟩
abbrev cX11_perform : ByteArray := prog_1_method_19_code
def yX11_perform : MethodName := ⟨RX11, "perform", "(I)I"⟩
abbrev cX11_season : ByteArray := prog_1_method_20_code
def yX11_season : MethodName := ⟨RX11, "season", "(II)I"⟩
abbrev cX11_alone : ByteArray := prog_1_method_21_code
def yX11_alone : MethodName := ⟨RX11, "alone", "(I)I"⟩
abbrev cX11_able : ByteArray := prog_1_method_22_code
def yX11_able : MethodName := ⟨RX11, "able", "()I"⟩
abbrev cX11_tears : ByteArray := prog_1_method_23_code
def yX11_tears : MethodName := ⟨RX11, "tears", "(II)I"⟩
abbrev cX11_row : ByteArray := prog_1_method_24_code
def yX11_row : MethodName := ⟨RX11, "row", "(I)I"⟩
abbrev cX11_order : ByteArray := prog_1_method_25_code
def yX11_order : MethodName := ⟨RX11, "order", "(II)I"⟩
abbrev cX11_orders : ByteArray := prog_1_method_26_code
def yX11_orders : MethodName := ⟨RX11, "orders", "(I)I"⟩
abbrev cX11_isSet : ByteArray := prog_1_method_27_code
def yX11_isSet : MethodName := ⟨RX11, "isSet", "(I)Z"⟩
abbrev cX11_apart : ByteArray := prog_1_method_28_code
def yX11_apart : MethodName := ⟨RX11, "apart", "(II)I"⟩
abbrev cX11_net : ByteArray := prog_1_method_29_code
def yX11_net : MethodName := ⟨RX11, "net", "(I)I"⟩
abbrev cX11_coin : ByteArray := prog_1_method_30_code
def yX11_coin : MethodName := ⟨RX11, "coin", "()I"⟩
abbrev cX11_settles : ByteArray := prog_1_method_31_code
def yX11_settles : MethodName := ⟨RX11, "settles", "()I"⟩
abbrev cX11_rings : ByteArray := prog_1_method_32_code
def yX11_rings : MethodName := ⟨RX11, "rings", "()I"⟩
abbrev cX11_ring : ByteArray := prog_1_method_33_code
def yX11_ring : MethodName := ⟨RX11, "ring", "(I)I"⟩
abbrev cX11_heaviest : ByteArray := prog_1_method_34_code
def yX11_heaviest : MethodName := ⟨RX11, "heaviest", "()I"⟩
abbrev cX11_forgive : ByteArray := prog_1_method_35_code
def yX11_forgive : MethodName := ⟨RX11, "forgive", "()I"⟩
abbrev cX11_mends : ByteArray := prog_1_method_36_code
def yX11_mends : MethodName := ⟨RX11, "mends", "(I)I"⟩
abbrev cX11_mendsAt : ByteArray := prog_1_method_37_code
def yX11_mendsAt : MethodName := ⟨RX11, "mendsAt", "(II)I"⟩
abbrev cX11_mendsAll : ByteArray := prog_1_method_38_code
def yX11_mendsAll : MethodName := ⟨RX11, "mendsAll", "()I"⟩
abbrev cX11_canBeMendedFor : ByteArray := prog_1_method_39_code
def yX11_canBeMendedFor : MethodName := ⟨RX11, "canBeMendedFor", "(I)Z"⟩
abbrev cX11_mendsOver : ByteArray := prog_1_method_40_code
def yX11_mendsOver : MethodName := ⟨RX11, "mendsOver", "(I)I"⟩
abbrev cX11_torn : ByteArray := prog_1_method_41_code
def yX11_torn : MethodName := ⟨RX11, "torn", "(I)I"⟩
abbrev cX11_tornAt : ByteArray := prog_1_method_42_code
def yX11_tornAt : MethodName := ⟨RX11, "tornAt", "(II)I"⟩
abbrev cX11_weighed : ByteArray := prog_1_method_43_code
def yX11_weighed : MethodName := ⟨RX11, "weighed", "(I)I"⟩
abbrev cX11_seenCode : ByteArray := prog_1_method_44_code
def yX11_seenCode : MethodName := ⟨RX11, "seenCode", "(I)I"⟩
abbrev cX11_chance : ByteArray := prog_1_method_45_code
def yX11_chance : MethodName := ⟨RX11, "chance", "(III)J"⟩
abbrev cX11_likely : ByteArray := prog_1_method_46_code
def yX11_likely : MethodName := ⟨RX11, "likely", "(II)I"⟩
abbrev cX11_isTray : ByteArray := prog_1_method_47_code
def yX11_isTray : MethodName := ⟨RX11, "isTray", "(I)Z"⟩
abbrev cX11_trayCode : ByteArray := prog_1_method_48_code
def yX11_trayCode : MethodName := ⟨RX11, "trayCode", "(I)I"⟩
abbrev cX11_numbers : ByteArray := prog_1_method_49_code
def yX11_numbers : MethodName := ⟨RX11, "numbers", "(III)I"⟩
abbrev cX11_write : ByteArray := prog_1_method_50_code
def yX11_write : MethodName := ⟨RX11, "write", "(IIJ)J"⟩
abbrev cX11_lists : ByteArray := prog_1_method_51_code
def yX11_lists : MethodName := ⟨RX11, "lists", "(I)I"⟩
abbrev cX11_image : ByteArray := prog_1_method_52_code
def yX11_image : MethodName := ⟨RX11, "image", "(I)I"⟩
abbrev cX11_restore : ByteArray := prog_1_method_53_code
def yX11_restore : MethodName := ⟨RX11, "restore", "(I)I"⟩
abbrev cX11_count : ByteArray := prog_1_method_54_code
def yX11_count : MethodName := ⟨RX11, "count", "(I)I"⟩
def RX12 : String := "DebtBridgeModel"
def TX12 : u_T := fun k => match k with
  | 0 => ("DebtBridgeModel", "thrown", "I", false)
  | 1 => ("DebtBridgeModel", "all", "[I", true)
  | 2 => ("DebtBridgeModel", "hasImage", "[Z", true)
  | 3 => ("DebtBridgeModel", "tape", "[I", true)
  | 4 => ("DebtBridgeModel", "fresh", "[I", true)
  | 5 => ("DebtBridgeModel", "taped", "I", false)
  | 6 => ("DebtBridgeModel", "at", "I", false)
  | 7 => ("DebtBridgeModel", "behind", "I", false)
  | 8 => ("DebtBridgeModel", "size", "I", false)
  | 9 => ("DebtBridgeModel", "kind", "I", false)
  | 10 => ("DebtBridgeModel", "number", "I", false)
  | 11 => ("DebtBridgeModel", "wrong", "I", false)
  | 12 => ("DebtBridgeModel", "wrongAt", "I", false)
  | 13 => ("DebtBridgeModel", "faultKind", "I", false)
  | 14 => ("DebtBridgeModel", "faultPlace", "I", false)
  | 15 => ("DebtBridgeModel", "reading", "I", false)
  | 16 => ("DebtBridgeModel", "reckoned", "[I", true)
  | 17 => ("DebtBridgeModel", "words", "[I", true)
  | 18 => ("DebtBridgeModel", "lies", "[I", true)
  | 19 => ("DebtBridgeModel", "was", "[I", true)
  | 20 => ("DebtBridgeModel", "people", "[I", true)
  | 21 => ("DebtBridgeModel", "peopleMany", "I", false)
  | 22 => ("DebtBridgeModel", "toldWhy", "I", false)
  | 23 => ("DebtBridgeModel", "bestRow", "[I", true)
  | 24 => ("DebtBridgeModel", "rows", "I", false)
  | 25 => ("DebtBridgeModel", "bestRing", "[I", true)
  | 26 => ("DebtBridgeModel", "rings", "I", false)
  | 27 => ("DebtBridgeModel", "bestRingMany", "I", false)
  | 28 => ("DebtBridgeModel", "bestGone", "I", false)
  | 29 => ("DebtBridgeModel", "weighing", "[I", true)
  | 30 => ("DebtBridgeModel", "rowSort", "[I", true)
  | 31 => ("DebtBridgeModel", "rowMany", "[I", true)
  | _ => ("DebtBridgeModel", "numbers", "[J", true)
def tyX12 : Nat → FieldType := fun k => match k with
  | 0 => .int
  | 1 => .array .int
  | 2 => .array .boolean
  | 3 => .array .int
  | 4 => .array .int
  | 5 => .int
  | 6 => .int
  | 7 => .int
  | 8 => .int
  | 9 => .int
  | 10 => .int
  | 11 => .int
  | 12 => .int
  | 13 => .int
  | 14 => .int
  | 15 => .int
  | 16 => .array .int
  | 17 => .array .int
  | 18 => .array .int
  | 19 => .array .int
  | 20 => .array .int
  | 21 => .int
  | 22 => .int
  | 23 => .array .int
  | 24 => .int
  | 25 => .array .int
  | 26 => .int
  | 27 => .int
  | 28 => .int
  | 29 => .array .int
  | 30 => .array .int
  | 31 => .array .int
  | _ => .array .long
abbrev wsX120 : List Cond := u_ws RX12 TX12 33
theorem nmX12 : ∀ a, a < 33 → ∀ b, b < 33 → a ≠ b → (TX12 a).2.1 ≠ (TX12 b).2.1 := by decide +kernel
theorem tyX12_ok : ∀ k, k < 33 → parseFieldDescriptor (TX12 k).2.2.1 = some (tyX12 k) := by decide +kernel
abbrev cX12_within : ByteArray := prog_14_method_2_code
def yX12_within : MethodName := ⟨RX12, "within", "(JJJ)Z"⟩
abbrev cX12_init : ByteArray := prog_14_method_3_code
def yX12_init : MethodName := ⟨RX12, "<init>", "()V"⟩
abbrev cX12_plain : ByteArray := prog_14_method_4_code
def yX12_plain : MethodName := ⟨RX12, "plain", "([I)V"⟩
abbrev cX12_feed : ByteArray := prog_14_method_5_code
def yX12_feed : MethodName := ⟨RX12, "feed", "(IIIII)I"⟩
abbrev cX12_see : ByteArray := prog_14_method_6_code
def yX12_see : MethodName := ⟨RX12, "see", "(I)I"⟩
abbrev cX12_isSmall : ByteArray := prog_14_method_7_code
def yX12_isSmall : MethodName := ⟨RX12, "isSmall", "(I)Z"⟩
abbrev cX12_isDigit : ByteArray := prog_14_method_8_code
def yX12_isDigit : MethodName := ⟨RX12, "isDigit", "(I)Z"⟩
abbrev cX12_keyAt : ByteArray := prog_14_method_9_code
def yX12_keyAt : MethodName := ⟨RX12, "keyAt", "()I"⟩
abbrev cX12_next : ByteArray := prog_14_method_10_code
def yX12_next : MethodName := ⟨RX12, "next", "()V"⟩
abbrev cX12_fails : ByteArray := prog_14_method_11_code
def yX12_fails : MethodName := ⟨RX12, "fails", "(I)V"⟩
abbrev cX12_is : ByteArray := prog_14_method_12_code
def yX12_is : MethodName := ⟨RX12, "is", "(I)Z"⟩
abbrev cX12_eats : ByteArray := prog_14_method_13_code
def yX12_eats : MethodName := ⟨RX12, "eats", "(I)Z"⟩
abbrev cX12_takes : ByteArray := prog_14_method_14_code
def yX12_takes : MethodName := ⟨RX12, "takes", "(II)I"⟩
abbrev cX12_isIn : ByteArray := prog_14_method_15_code
def yX12_isIn : MethodName := ⟨RX12, "isIn", "(JI)Z"⟩
abbrev cX12_wordOf : ByteArray := prog_14_method_16_code
def yX12_wordOf : MethodName := ⟨RX12, "wordOf", "(I)I"⟩
abbrev cX12_codes : ByteArray := prog_14_method_17_code
def yX12_codes : MethodName := ⟨RX12, "codes", "(I)V"⟩
abbrev cX12_goesIn : ByteArray := prog_14_method_18_code
def yX12_goesIn : MethodName := ⟨RX12, "goesIn", "(I)Z"⟩
abbrev cX12_readAtom : ByteArray := prog_14_method_19_code
def yX12_readAtom : MethodName := ⟨RX12, "readAtom", "(I)V"⟩
abbrev cX12_readTerm : ByteArray := prog_14_method_20_code
def yX12_readTerm : MethodName := ⟨RX12, "readTerm", "(I)V"⟩
abbrev cX12_readSum : ByteArray := prog_14_method_21_code
def yX12_readSum : MethodName := ⟨RX12, "readSum", "(I)V"⟩
abbrev cX12_readUnit : ByteArray := prog_14_method_22_code
def yX12_readUnit : MethodName := ⟨RX12, "readUnit", "(I)V"⟩
abbrev cX12_readBoth : ByteArray := prog_14_method_23_code
def yX12_readBoth : MethodName := ⟨RX12, "readBoth", "(I)V"⟩
abbrev cX12_readTruth : ByteArray := prog_14_method_24_code
def yX12_readTruth : MethodName := ⟨RX12, "readTruth", "(I)V"⟩
abbrev cX12_readPlank : ByteArray := prog_14_method_25_code
def yX12_readPlank : MethodName := ⟨RX12, "readPlank", "()V"⟩
abbrev cX12_readPerson : ByteArray := prog_14_method_26_code
def yX12_readPerson : MethodName := ⟨RX12, "readPerson", "()V"⟩
abbrev cX12_readPaper : ByteArray := prog_14_method_27_code
def yX12_readPaper : MethodName := ⟨RX12, "readPaper", "()V"⟩
abbrev cX12_readLaw : ByteArray := prog_14_method_28_code
def yX12_readLaw : MethodName := ⟨RX12, "readLaw", "(I)V"⟩
abbrev cX12_readLine : ByteArray := prog_14_method_29_code
def yX12_readLine : MethodName := ⟨RX12, "readLine", "()V"⟩
abbrev cX12_ends : ByteArray := prog_14_method_30_code
def yX12_ends : MethodName := ⟨RX12, "ends", "()V"⟩
abbrev cX12_bridge : ByteArray := prog_14_method_31_code
def yX12_bridge : MethodName := ⟨RX12, "bridge", "(I)I"⟩
abbrev cX12_fault : ByteArray := prog_14_method_32_code
def yX12_fault : MethodName := ⟨RX12, "fault", "(I)I"⟩
abbrev cX12_isPerson : ByteArray := prog_14_method_33_code
def yX12_isPerson : MethodName := ⟨RX12, "isPerson", "(J)Z"⟩
abbrev cX12_isPlank : ByteArray := prog_14_method_34_code
def yX12_isPlank : MethodName := ⟨RX12, "isPlank", "(J)Z"⟩
abbrev cX12_areTwo : ByteArray := prog_14_method_35_code
def yX12_areTwo : MethodName := ⟨RX12, "areTwo", "(JJ)Z"⟩
abbrev cX12_bitsOf : ByteArray := prog_14_method_36_code
def yX12_bitsOf : MethodName := ⟨RX12, "bitsOf", "(I)I"⟩
abbrev cX12_debt : ByteArray := prog_14_method_37_code
def yX12_debt : MethodName := ⟨RX12, "debt", "(II)I"⟩
abbrev cX12_debtOf : ByteArray := prog_14_method_38_code
def yX12_debtOf : MethodName := ⟨RX12, "debtOf", "(I)I"⟩
abbrev cX12_owedTo : ByteArray := prog_14_method_39_code
def yX12_owedTo : MethodName := ⟨RX12, "owedTo", "(I)I"⟩
abbrev cX12_papersOf : ByteArray := prog_14_method_40_code
def yX12_papersOf : MethodName := ⟨RX12, "papersOf", "(I)I"⟩
abbrev cX12_between : ByteArray := prog_14_method_41_code
def yX12_between : MethodName := ⟨RX12, "between", "(III)I"⟩
abbrev cX12_reckons : ByteArray := prog_14_method_42_code
def yX12_reckons : MethodName := ⟨RX12, "reckons", "(II)I"⟩
abbrev cX12_weightOf : ByteArray := prog_14_method_43_code
def yX12_weightOf : MethodName := ⟨RX12, "weightOf", "(I)I"⟩
abbrev cX12_mayCome : ByteArray := prog_14_method_44_code
def yX12_mayCome : MethodName := ⟨RX12, "mayCome", "(III)Z"⟩
abbrev cX12_isFallen : ByteArray := prog_14_method_45_code
def yX12_isFallen : MethodName := ⟨RX12, "isFallen", "(I)Z"⟩
abbrev cX12_isOn : ByteArray := prog_14_method_46_code
def yX12_isOn : MethodName := ⟨RX12, "isOn", "(I)Z"⟩
abbrev cX12_othersOn : ByteArray := prog_14_method_47_code
def yX12_othersOn : MethodName := ⟨RX12, "othersOn", "(I)I"⟩
abbrev cX12_loadOf : ByteArray := prog_14_method_48_code
def yX12_loadOf : MethodName := ⟨RX12, "loadOf", "(I)I"⟩
abbrev cX12_bearsOf : ByteArray := prog_14_method_49_code
def yX12_bearsOf : MethodName := ⟨RX12, "bearsOf", "(I)I"⟩
abbrev cX12_laysNow : ByteArray := prog_14_method_50_code
def yX12_laysNow : MethodName := ⟨RX12, "laysNow", "()V"⟩
abbrev cX12_firstOver : ByteArray := prog_14_method_51_code
def yX12_firstOver : MethodName := ⟨RX12, "firstOver", "()I"⟩
abbrev cX12_breaks : ByteArray := prog_14_method_52_code
def yX12_breaks : MethodName := ⟨RX12, "breaks", "()V"⟩
abbrev cX12_person : ByteArray := prog_14_method_53_code
def yX12_person : MethodName := ⟨RX12, "person", "(II)I"⟩
abbrev cX12_owes : ByteArray := prog_14_method_54_code
def yX12_owes : MethodName := ⟨RX12, "owes", "(II)I"⟩
abbrev cX12_plank : ByteArray := prog_14_method_55_code
def yX12_plank : MethodName := ⟨RX12, "plank", "(II)I"⟩
abbrev cX12_keeps : ByteArray := prog_14_method_56_code
def yX12_keeps : MethodName := ⟨RX12, "keeps", "()V"⟩
abbrev cX12_isAgain : ByteArray := prog_14_method_57_code
def yX12_isAgain : MethodName := ⟨RX12, "isAgain", "()V"⟩
abbrev cX12_notes : ByteArray := prog_14_method_58_code
def yX12_notes : MethodName := ⟨RX12, "notes", "()V"⟩
abbrev cX12_isPlankBroken : ByteArray := prog_14_method_59_code
def yX12_isPlankBroken : MethodName := ⟨RX12, "isPlankBroken", "(I)Z"⟩
abbrev cX12_mayGo : ByteArray := prog_14_method_60_code
def yX12_mayGo : MethodName := ⟨RX12, "mayGo", "(II)Z"⟩
abbrev cX12_isTied : ByteArray := prog_14_method_61_code
def yX12_isTied : MethodName := ⟨RX12, "isTied", "(I)Z"⟩
abbrev cX12_whyStep : ByteArray := prog_14_method_62_code
def yX12_whyStep : MethodName := ⟨RX12, "whyStep", "(JI)I"⟩
abbrev cX12_whyHand : ByteArray := prog_14_method_63_code
def yX12_whyHand : MethodName := ⟨RX12, "whyHand", "(JJ)I"⟩
abbrev cX12_whyTear : ByteArray := prog_14_method_64_code
def yX12_whyTear : MethodName := ⟨RX12, "whyTear", "(JJ)I"⟩
abbrev cX12_whyMend : ByteArray := prog_14_method_65_code
def yX12_whyMend : MethodName := ⟨RX12, "whyMend", "(J)I"⟩
abbrev cX12_goes : ByteArray := prog_14_method_66_code
def yX12_goes : MethodName := ⟨RX12, "goes", "(II)V"⟩
abbrev cX12_goesBoth : ByteArray := prog_14_method_67_code
def yX12_goesBoth : MethodName := ⟨RX12, "goesBoth", "(II)V"⟩
abbrev cX12_tears1 : ByteArray := prog_14_method_68_code
def yX12_tears1 : MethodName := ⟨RX12, "tears1", "(II)V"⟩
abbrev cX12_mends1 : ByteArray := prog_14_method_69_code
def yX12_mends1 : MethodName := ⟨RX12, "mends1", "(I)V"⟩
abbrev cX12_draw : ByteArray := prog_14_method_70_code
def yX12_draw : MethodName := ⟨RX12, "draw", "(I)I"⟩
abbrev cX12_goesDay : ByteArray := prog_14_method_71_code
def yX12_goesDay : MethodName := ⟨RX12, "goesDay", "()I"⟩
abbrev cX12_seed : ByteArray := prog_14_method_72_code
def yX12_seed : MethodName := ⟨RX12, "seed", "(I)I"⟩
abbrev cX12_step : ByteArray := prog_14_method_73_code
def yX12_step : MethodName := ⟨RX12, "step", "(IZ)I"⟩
abbrev cX12_hand : ByteArray := prog_14_method_74_code
def yX12_hand : MethodName := ⟨RX12, "hand", "(II)I"⟩
abbrev cX12_tear : ByteArray := prog_14_method_75_code
def yX12_tear : MethodName := ⟨RX12, "tear", "(II)I"⟩
abbrev cX12_noTray : ByteArray := prog_14_method_76_code
def yX12_noTray : MethodName := ⟨RX12, "noTray", "(I)I"⟩
abbrev cX12_laysPeople : ByteArray := prog_14_method_77_code
def yX12_laysPeople : MethodName := ⟨RX12, "laysPeople", "(I)Z"⟩
abbrev cX12_leastOf : ByteArray := prog_14_method_78_code
def yX12_leastOf : MethodName := ⟨RX12, "leastOf", "()I"⟩
abbrev cX12_cancel : ByteArray := prog_14_method_79_code
def yX12_cancel : MethodName := ⟨RX12, "cancel", "(I)I"⟩
abbrev cX12_mend : ByteArray := prog_14_method_80_code
def yX12_mend : MethodName := ⟨RX12, "mend", "(I)I"⟩
abbrev cX12_days : ByteArray := prog_14_method_81_code
def yX12_days : MethodName := ⟨RX12, "days", "(I)I"⟩
abbrev cX12_undo : ByteArray := prog_14_method_82_code
def yX12_undo : MethodName := ⟨RX12, "undo", "(I)I"⟩
abbrev cX12_whyNot : ByteArray := prog_14_method_83_code
def yX12_whyNot : MethodName := ⟨RX12, "whyNot", "(J)I"⟩
abbrev cX12_does : ByteArray := prog_14_method_84_code
def yX12_does : MethodName := ⟨RX12, "does", "(I)V"⟩
abbrev cX12_tells : ByteArray := prog_14_method_85_code
def yX12_tells : MethodName := ⟨RX12, "tells", "(I)I"⟩
abbrev cX12_fallen : ByteArray := prog_14_method_86_code
def yX12_fallen : MethodName := ⟨RX12, "fallen", "()I"⟩
abbrev cX12_onEast : ByteArray := prog_14_method_87_code
def yX12_onEast : MethodName := ⟨RX12, "onEast", "()I"⟩
abbrev cX12_judge : ByteArray := prog_14_method_88_code
def yX12_judge : MethodName := ⟨RX12, "judge", "(II)I"⟩
abbrev cX12_perform : ByteArray := prog_14_method_89_code
def yX12_perform : MethodName := ⟨RX12, "perform", "(I)I"⟩
abbrev cX12_drawn : ByteArray := prog_14_method_90_code
def yX12_drawn : MethodName := ⟨RX12, "drawn", "()I"⟩
abbrev cX12_season : ByteArray := prog_14_method_91_code
def yX12_season : MethodName := ⟨RX12, "season", "(II)I"⟩
abbrev cX12_laysNone : ByteArray := prog_14_method_92_code
def yX12_laysNone : MethodName := ⟨RX12, "laysNone", "()V"⟩
abbrev cX12_stops : ByteArray := prog_14_method_93_code
def yX12_stops : MethodName := ⟨RX12, "stops", "(I)I"⟩
abbrev cX12_ableSet : ByteArray := prog_14_method_94_code
def yX12_ableSet : MethodName := ⟨RX12, "ableSet", "()I"⟩
abbrev cX12_alone : ByteArray := prog_14_method_95_code
def yX12_alone : MethodName := ⟨RX12, "alone", "(I)I"⟩
abbrev cX12_able : ByteArray := prog_14_method_96_code
def yX12_able : MethodName := ⟨RX12, "able", "()I"⟩
abbrev cX12_tears : ByteArray := prog_14_method_97_code
def yX12_tears : MethodName := ⟨RX12, "tears", "(II)I"⟩
abbrev cX12_stopsRow : ByteArray := prog_14_method_98_code
def yX12_stopsRow : MethodName := ⟨RX12, "stopsRow", "(I)I"⟩
abbrev cX12_row : ByteArray := prog_14_method_99_code
def yX12_row : MethodName := ⟨RX12, "row", "(I)I"⟩
abbrev cX12_goesRows : ByteArray := prog_14_method_100_code
def yX12_goesRows : MethodName := ⟨RX12, "goesRows", "(I)V"⟩
abbrev cX12_laysRows : ByteArray := prog_14_method_101_code
def yX12_laysRows : MethodName := ⟨RX12, "laysRows", "(I)V"⟩
abbrev cX12_isSet : ByteArray := prog_14_method_102_code
def yX12_isSet : MethodName := ⟨RX12, "isSet", "(I)Z"⟩
abbrev cX12_order : ByteArray := prog_14_method_103_code
def yX12_order : MethodName := ⟨RX12, "order", "(II)I"⟩
abbrev cX12_orders : ByteArray := prog_14_method_104_code
def yX12_orders : MethodName := ⟨RX12, "orders", "(I)I"⟩
abbrev cX12_apart : ByteArray := prog_14_method_105_code
def yX12_apart : MethodName := ⟨RX12, "apart", "(II)I"⟩
abbrev cX12_netOf : ByteArray := prog_14_method_106_code
def yX12_netOf : MethodName := ⟨RX12, "netOf", "(I)I"⟩
abbrev cX12_net : ByteArray := prog_14_method_107_code
def yX12_net : MethodName := ⟨RX12, "net", "(I)I"⟩
abbrev cX12_coin : ByteArray := prog_14_method_108_code
def yX12_coin : MethodName := ⟨RX12, "coin", "()I"⟩
abbrev cX12_sumOf : ByteArray := prog_14_method_109_code
def yX12_sumOf : MethodName := ⟨RX12, "sumOf", "(I)I"⟩
abbrev cX12_groups : ByteArray := prog_14_method_110_code
def yX12_groups : MethodName := ⟨RX12, "groups", "(I)I"⟩
abbrev cX12_settles : ByteArray := prog_14_method_111_code
def yX12_settles : MethodName := ⟨RX12, "settles", "()I"⟩
abbrev cX12_goesRing : ByteArray := prog_14_method_112_code
def yX12_goesRing : MethodName := ⟨RX12, "goesRing", "(I)V"⟩
abbrev cX12_laysRing : ByteArray := prog_14_method_113_code
def yX12_laysRing : MethodName := ⟨RX12, "laysRing", "()V"⟩
abbrev cX12_laysRings : ByteArray := prog_14_method_114_code
def yX12_laysRings : MethodName := ⟨RX12, "laysRings", "()V"⟩
abbrev cX12_rings : ByteArray := prog_14_method_115_code
def yX12_rings : MethodName := ⟨RX12, "rings", "()I"⟩
abbrev cX12_ring : ByteArray := prog_14_method_116_code
def yX12_ring : MethodName := ⟨RX12, "ring", "(I)I"⟩
abbrev cX12_heaviest : ByteArray := prog_14_method_117_code
def yX12_heaviest : MethodName := ⟨RX12, "heaviest", "()I"⟩
abbrev cX12_forgive : ByteArray := prog_14_method_118_code
def yX12_forgive : MethodName := ⟨RX12, "forgive", "()I"⟩
abbrev cX12_needs : ByteArray := prog_14_method_119_code
def yX12_needs : MethodName := ⟨RX12, "needs", "(II)I"⟩
abbrev cX12_needsAll : ByteArray := prog_14_method_120_code
def yX12_needsAll : MethodName := ⟨RX12, "needsAll", "(I)I"⟩
abbrev cX12_mends : ByteArray := prog_14_method_121_code
def yX12_mends : MethodName := ⟨RX12, "mends", "(I)I"⟩
abbrev cX12_mendsAt : ByteArray := prog_14_method_122_code
def yX12_mendsAt : MethodName := ⟨RX12, "mendsAt", "(II)I"⟩
abbrev cX12_mendsAll : ByteArray := prog_14_method_123_code
def yX12_mendsAll : MethodName := ⟨RX12, "mendsAll", "()I"⟩
abbrev cX12_noSeen : ByteArray := prog_14_method_124_code
def yX12_noSeen : MethodName := ⟨RX12, "noSeen", "(I)I"⟩
abbrev cX12_fits : ByteArray := prog_14_method_125_code
def yX12_fits : MethodName := ⟨RX12, "fits", "(II)Z"⟩
abbrev cX12_torn : ByteArray := prog_14_method_126_code
def yX12_torn : MethodName := ⟨RX12, "torn", "(I)I"⟩
abbrev cX12_tornAt : ByteArray := prog_14_method_127_code
def yX12_tornAt : MethodName := ⟨RX12, "tornAt", "(II)I"⟩
abbrev cX12_weighed : ByteArray := prog_14_method_128_code
def yX12_weighed : MethodName := ⟨RX12, "weighed", "(I)I"⟩
abbrev cX12_tens : ByteArray := prog_14_method_129_code
def yX12_tens : MethodName := ⟨RX12, "tens", "(I)J"⟩
abbrev cX12_common : ByteArray := prog_14_method_130_code
def yX12_common : MethodName := ⟨RX12, "common", "(JJ)J"⟩
abbrev cX12_chanceOf : ByteArray := prog_14_method_131_code
def yX12_chanceOf : MethodName := ⟨RX12, "chanceOf", "(II)J"⟩
abbrev cX12_chance : ByteArray := prog_14_method_132_code
def yX12_chance : MethodName := ⟨RX12, "chance", "(III)J"⟩
abbrev cX12_likely : ByteArray := prog_14_method_133_code
def yX12_likely : MethodName := ⟨RX12, "likely", "(II)I"⟩
abbrev cX12_cut : ByteArray := prog_14_method_134_code
def yX12_cut : MethodName := ⟨RX12, "cut", "(JI)J"⟩
abbrev cX12_numbers : ByteArray := prog_14_method_135_code
def yX12_numbers : MethodName := ⟨RX12, "numbers", "(III)I"⟩
abbrev cX12_write : ByteArray := prog_14_method_136_code
def yX12_write : MethodName := ⟨RX12, "write", "(IIJ)J"⟩
abbrev cX12_lists : ByteArray := prog_14_method_137_code
def yX12_lists : MethodName := ⟨RX12, "lists", "(I)I"⟩
abbrev cX12_image : ByteArray := prog_14_method_138_code
def yX12_image : MethodName := ⟨RX12, "image", "(I)I"⟩
abbrev cX12_restore : ByteArray := prog_14_method_139_code
def yX12_restore : MethodName := ⟨RX12, "restore", "(I)I"⟩
abbrev cX12_onPlanks : ByteArray := prog_14_method_140_code
def yX12_onPlanks : MethodName := ⟨RX12, "onPlanks", "()I"⟩
abbrev cX12_papersAll : ByteArray := prog_14_method_141_code
def yX12_papersAll : MethodName := ⟨RX12, "papersAll", "()I"⟩
abbrev cX12_debtAll : ByteArray := prog_14_method_142_code
def yX12_debtAll : MethodName := ⟨RX12, "debtAll", "()I"⟩
abbrev cX12_count : ByteArray := prog_14_method_143_code
def yX12_count : MethodName := ⟨RX12, "count", "(I)I"⟩
def RJx145de : String := "java/io/Serializable"
def TJx145de : u_T := fun k => match k with
  | _ => ("", "", "", false)
def tyJx145de : Nat → FieldType := fun k => match k with
  | _ => .int
abbrev wsJx145de0 : List Cond := u_ws RJx145de TJx145de 0
theorem nmJx145de : ∀ a, a < 0 → ∀ b, b < 0 → a ≠ b → (TJx145de a).2.1 ≠ (TJx145de b).2.1 := by decide +kernel
theorem tyJx145de_ok : ∀ k, k < 0 → parseFieldDescriptor (TJx145de k).2.2.1 = some (tyJx145de k) := by decide +kernel
def RJx9f9b0 : String := "java/lang/CharSequence"
def TJx9f9b0 : u_T := fun k => match k with
  | _ => ("", "", "", false)
def tyJx9f9b0 : Nat → FieldType := fun k => match k with
  | _ => .int
abbrev wsJx9f9b00 : List Cond := u_ws RJx9f9b0 TJx9f9b0 0
theorem nmJx9f9b0 : ∀ a, a < 0 → ∀ b, b < 0 → a ≠ b → (TJx9f9b0 a).2.1 ≠ (TJx9f9b0 b).2.1 := by decide +kernel
theorem tyJx9f9b0_ok : ∀ k, k < 0 → parseFieldDescriptor (TJx9f9b0 k).2.2.1 = some (tyJx9f9b0 k) := by decide +kernel
def RJ11 : String := "java/lang/Character"
def TJ11 : u_T := fun k => match k with
  | _ => ("", "", "", false)
def tyJ11 : Nat → FieldType := fun k => match k with
  | _ => .int
abbrev wsJ110 : List Cond := u_ws RJ11 TJ11 0
theorem nmJ11 : ∀ a, a < 0 → ∀ b, b < 0 → a ≠ b → (TJ11 a).2.1 ≠ (TJ11 b).2.1 := by decide +kernel
theorem tyJ11_ok : ∀ k, k < 0 → parseFieldDescriptor (TJ11 k).2.2.1 = some (tyJ11 k) := by decide +kernel
abbrev cJ11_isValidCodePoint_9a6ad : ByteArray := prog_15_method_11_code
def yJ11_isValidCodePoint_9a6ad : MethodName := ⟨RJ11, "isValidCodePoint", "(I)Z"⟩
abbrev cJ11_highSurrogate_5068e : ByteArray := prog_15_method_28_code
def yJ11_highSurrogate_5068e : MethodName := ⟨RJ11, "highSurrogate", "(I)C"⟩
abbrev cJ11_lowSurrogate_5068e : ByteArray := prog_15_method_29_code
def yJ11_lowSurrogate_5068e : MethodName := ⟨RJ11, "lowSurrogate", "(I)C"⟩
def RJx8e188 : String := "java/lang/Cloneable"
def TJx8e188 : u_T := fun k => match k with
  | _ => ("", "", "", false)
def tyJx8e188 : Nat → FieldType := fun k => match k with
  | _ => .int
abbrev wsJx8e1880 : List Cond := u_ws RJx8e188 TJx8e188 0
theorem nmJx8e188 : ∀ a, a < 0 → ∀ b, b < 0 → a ≠ b → (TJx8e188 a).2.1 ≠ (TJx8e188 b).2.1 := by decide +kernel
theorem tyJx8e188_ok : ∀ k, k < 0 → parseFieldDescriptor (TJx8e188 k).2.2.1 = some (tyJx8e188 k) := by decide +kernel
def RJxb160c : String := "java/lang/Comparable"
def TJxb160c : u_T := fun k => match k with
  | _ => ("", "", "", false)
def tyJxb160c : Nat → FieldType := fun k => match k with
  | _ => .int
abbrev wsJxb160c0 : List Cond := u_ws RJxb160c TJxb160c 0
theorem nmJxb160c : ∀ a, a < 0 → ∀ b, b < 0 → a ≠ b → (TJxb160c a).2.1 ≠ (TJxb160c b).2.1 := by decide +kernel
theorem tyJxb160c_ok : ∀ k, k < 0 → parseFieldDescriptor (TJxb160c k).2.2.1 = some (tyJxb160c k) := by decide +kernel
def RJ6 : String := "java/lang/Integer"
def TJ6 : u_T := fun k => match k with
  | _ => ("", "", "", false)
def tyJ6 : Nat → FieldType := fun k => match k with
  | _ => .int
abbrev wsJ60 : List Cond := u_ws RJ6 TJ6 0
theorem nmJ6 : ∀ a, a < 0 → ∀ b, b < 0 → a ≠ b → (TJ6 a).2.1 ≠ (TJ6 b).2.1 := by decide +kernel
theorem tyJ6_ok : ∀ k, k < 0 → parseFieldDescriptor (TJ6 k).2.2.1 = some (tyJ6 k) := by decide +kernel
abbrev cJ6_bitCount_0f7a4 : ByteArray := prog_17_method_49_code
def yJ6_bitCount_0f7a4 : MethodName := ⟨RJ6, "bitCount", "(I)I"⟩
def RJ9 : String := "java/lang/Math"
def TJ9 : u_T := fun k => match k with
  | _ => ("", "", "", false)
def tyJ9 : Nat → FieldType := fun k => match k with
  | _ => .int
abbrev wsJ90 : List Cond := u_ws RJ9 TJ9 0
theorem nmJ9 : ∀ a, a < 0 → ∀ b, b < 0 → a ≠ b → (TJ9 a).2.1 ≠ (TJ9 b).2.1 := by decide +kernel
theorem tyJ9_ok : ∀ k, k < 0 → parseFieldDescriptor (TJ9 k).2.2.1 = some (tyJ9 k) := by decide +kernel
abbrev cJ9_max_7cf53 : ByteArray := prog_18_method_65_code
def yJ9_max_7cf53 : MethodName := ⟨RJ9, "max", "(II)I"⟩
abbrev cJ9_max_f86c9 : ByteArray := prog_18_method_66_code
def yJ9_max_f86c9 : MethodName := ⟨RJ9, "max", "(JJ)J"⟩
abbrev cJ9_min_7cf53 : ByteArray := prog_18_method_69_code
def yJ9_min_7cf53 : MethodName := ⟨RJ9, "min", "(II)I"⟩
abbrev cJ9_min_f86c9 : ByteArray := prog_18_method_70_code
def yJ9_min_f86c9 : MethodName := ⟨RJ9, "min", "(JJ)J"⟩
def RJ0 : String := "java/lang/String"
def TJ0 : u_T := fun k => match k with
  | _ => ("", "", "", false)
def tyJ0 : Nat → FieldType := fun k => match k with
  | _ => .int
abbrev wsJ00 : List Cond := u_ws RJ0 TJ0 0
theorem nmJ0 : ∀ a, a < 0 → ∀ b, b < 0 → a ≠ b → (TJ0 a).2.1 ≠ (TJ0 b).2.1 := by decide +kernel
theorem tyJ0_ok : ∀ k, k < 0 → parseFieldDescriptor (TJ0 k).2.2.1 = some (tyJ0 k) := by decide +kernel
abbrev cJ0_length_8abf5 : ByteArray := prog_19_method_54_code
def yJ0_length_8abf5 : MethodName := ⟨RJ0, "length", "()I"⟩
abbrev cJ0_charAt_5068e : ByteArray := prog_19_method_56_code
def yJ0_charAt_5068e : MethodName := ⟨RJ0, "charAt", "(I)C"⟩
abbrev cJ0_indexOf_0f7a4 : ByteArray := prog_19_method_79_code
def yJ0_indexOf_0f7a4 : MethodName := ⟨RJ0, "indexOf", "(I)I"⟩
abbrev cJ0_indexOf_7cf53 : ByteArray := prog_19_method_80_code
def yJ0_indexOf_7cf53 : MethodName := ⟨RJ0, "indexOf", "(II)I"⟩
abbrev cJ0_coder_7d493 : ByteArray := prog_19_method_152_code
def yJ0_coder_7d493 : MethodName := ⟨RJ0, "coder", "()B"⟩
abbrev cJ0_isLatin1_aae02 : ByteArray := prog_19_method_154_code
def yJ0_isLatin1_aae02 : MethodName := ⟨RJ0, "isLatin1", "()Z"⟩
abbrev cJ0_checkIndex_df160 : ByteArray := prog_19_method_155_code
def yJ0_checkIndex_df160 : MethodName := ⟨RJ0, "checkIndex", "(II)V"⟩
abbrev cJ0_checkBoundsBeginEnd_23922 : ByteArray := prog_19_method_158_code
def yJ0_checkBoundsBeginEnd_23922 : MethodName := ⟨RJ0, "checkBoundsBeginEnd", "(III)V"⟩
def RJ1 : String := "java/lang/StringLatin1"
def TJ1 : u_T := fun k => match k with
  | _ => ("", "", "", false)
def tyJ1 : Nat → FieldType := fun k => match k with
  | _ => .int
abbrev wsJ10 : List Cond := u_ws RJ1 TJ1 0
theorem nmJ1 : ∀ a, a < 0 → ∀ b, b < 0 → a ≠ b → (TJ1 a).2.1 ≠ (TJ1 b).2.1 := by decide +kernel
theorem tyJ1_ok : ∀ k, k < 0 → parseFieldDescriptor (TJ1 k).2.2.1 = some (tyJ1 k) := by decide +kernel
abbrev cJ1_charAt_3b067 : ByteArray := prog_20_method_2_code
def yJ1_charAt_3b067 : MethodName := ⟨RJ1, "charAt", "([BI)C"⟩
abbrev cJ1_canEncode_9a6ad : ByteArray := prog_20_method_4_code
def yJ1_canEncode_9a6ad : MethodName := ⟨RJ1, "canEncode", "(I)Z"⟩
abbrev cJ1_indexOf_4cfef : ByteArray := prog_20_method_22_code
def yJ1_indexOf_4cfef : MethodName := ⟨RJ1, "indexOf", "([BIII)I"⟩
abbrev cJ1_indexOfChar_4cfef : ByteArray := prog_20_method_23_code
def yJ1_indexOfChar_4cfef : MethodName := ⟨RJ1, "indexOfChar", "([BIII)I"⟩
def RJ2 : String := "java/lang/StringUTF16"
def TJ2 : u_T := fun k => match k with
  | _ => ("", "", "", false)
def tyJ2 : Nat → FieldType := fun k => match k with
  | _ => .int
abbrev wsJ20 : List Cond := u_ws RJ2 TJ2 0
theorem nmJ2 : ∀ a, a < 0 → ∀ b, b < 0 → a ≠ b → (TJ2 a).2.1 ≠ (TJ2 b).2.1 := by decide +kernel
theorem tyJ2_ok : ∀ k, k < 0 → parseFieldDescriptor (TJ2 k).2.2.1 = some (tyJ2 k) := by decide +kernel
abbrev cJ2_getChar_3b067 : ByteArray := prog_21_method_5_code
def yJ2_getChar_3b067 : MethodName := ⟨RJ2, "getChar", "([BI)C"⟩
abbrev cJ2_length_9d52b : ByteArray := prog_21_method_6_code
def yJ2_length_9d52b : MethodName := ⟨RJ2, "length", "([B)I"⟩
abbrev cJ2_indexOf_4cfef : ByteArray := prog_21_method_40_code
def yJ2_indexOf_4cfef : MethodName := ⟨RJ2, "indexOf", "([BIII)I"⟩
abbrev cJ2_indexOfChar_4cfef : ByteArray := prog_21_method_47_code
def yJ2_indexOfChar_4cfef : MethodName := ⟨RJ2, "indexOfChar", "([BIII)I"⟩
abbrev cJ2_indexOfCharUnsafe_4cfef : ByteArray := prog_21_method_48_code
def yJ2_indexOfCharUnsafe_4cfef : MethodName := ⟨RJ2, "indexOfCharUnsafe", "([BIII)I"⟩
abbrev cJ2_indexOfSupplementary_4cfef : ByteArray := prog_21_method_49_code
def yJ2_indexOfSupplementary_4cfef : MethodName := ⟨RJ2, "indexOfSupplementary", "([BIII)I"⟩
abbrev cJ2_charAt_3b067 : ByteArray := prog_21_method_83_code
def yJ2_charAt_3b067 : MethodName := ⟨RJ2, "charAt", "([BI)C"⟩
abbrev cJ2_checkIndex_2214a : ByteArray := prog_21_method_91_code
def yJ2_checkIndex_2214a : MethodName := ⟨RJ2, "checkIndex", "(I[B)V"⟩
abbrev cJ2_checkBoundsBeginEnd_d044e : ByteArray := prog_21_method_93_code
def yJ2_checkBoundsBeginEnd_d044e : MethodName := ⟨RJ2, "checkBoundsBeginEnd", "(II[B)V"⟩
def RJ10 : String := "java/lang/System"
def TJ10 : u_T := fun k => match k with
  | _ => ("", "", "", false)
def tyJ10 : Nat → FieldType := fun k => match k with
  | _ => .int
abbrev wsJ100 : List Cond := u_ws RJ10 TJ10 0
theorem nmJ10 : ∀ a, a < 0 → ∀ b, b < 0 → a ≠ b → (TJ10 a).2.1 ≠ (TJ10 b).2.1 := by decide +kernel
theorem tyJ10_ok : ∀ k, k < 0 → parseFieldDescriptor (TJ10 k).2.2.1 = some (tyJ10 k) := by decide +kernel
def RJxfd54e : String := "java/lang/constant/Constable"
def TJxfd54e : u_T := fun k => match k with
  | _ => ("", "", "", false)
def tyJxfd54e : Nat → FieldType := fun k => match k with
  | _ => .int
abbrev wsJxfd54e0 : List Cond := u_ws RJxfd54e TJxfd54e 0
theorem nmJxfd54e : ∀ a, a < 0 → ∀ b, b < 0 → a ≠ b → (TJxfd54e a).2.1 ≠ (TJxfd54e b).2.1 := by decide +kernel
theorem tyJxfd54e_ok : ∀ k, k < 0 → parseFieldDescriptor (TJxfd54e k).2.2.1 = some (tyJxfd54e k) := by decide +kernel
def RJx3cf43 : String := "java/lang/constant/ConstantDesc"
def TJx3cf43 : u_T := fun k => match k with
  | _ => ("", "", "", false)
def tyJx3cf43 : Nat → FieldType := fun k => match k with
  | _ => .int
abbrev wsJx3cf430 : List Cond := u_ws RJx3cf43 TJx3cf43 0
theorem nmJx3cf43 : ∀ a, a < 0 → ∀ b, b < 0 → a ≠ b → (TJx3cf43 a).2.1 ≠ (TJx3cf43 b).2.1 := by decide +kernel
theorem tyJx3cf43_ok : ∀ k, k < 0 → parseFieldDescriptor (TJx3cf43 k).2.2.1 = some (tyJx3cf43 k) := by decide +kernel
def RJ7 : String := "java/util/Arrays"
def TJ7 : u_T := fun k => match k with
  | _ => ("", "", "", false)
def tyJ7 : Nat → FieldType := fun k => match k with
  | _ => .int
abbrev wsJ70 : List Cond := u_ws RJ7 TJ7 0
theorem nmJ7 : ∀ a, a < 0 → ∀ b, b < 0 → a ≠ b → (TJ7 a).2.1 ≠ (TJ7 b).2.1 := by decide +kernel
theorem tyJ7_ok : ∀ k, k < 0 → parseFieldDescriptor (TJ7 k).2.2.1 = some (tyJ7 k) := by decide +kernel
abbrev cJ7_fill_d0a16 : ByteArray := prog_23_method_101_code
def yJ7_fill_d0a16 : MethodName := ⟨RJ7, "fill", "([JJ)V"⟩
abbrev cJ7_fill_53178 : ByteArray := prog_23_method_103_code
def yJ7_fill_53178 : MethodName := ⟨RJ7, "fill", "([II)V"⟩
abbrev cJ7_copyOf_59c91 : ByteArray := prog_23_method_123_code
def yJ7_copyOf_59c91 : MethodName := ⟨RJ7, "copyOf", "([II)[I"⟩
def RJ3 : String := "jdk/internal/util/Preconditions"
def TJ3 : u_T := fun k => match k with
  | _ => ("", "", "", false)
def tyJ3 : Nat → FieldType := fun k => match k with
  | _ => .int
abbrev wsJ30 : List Cond := u_ws RJ3 TJ3 0
theorem nmJ3 : ∀ a, a < 0 → ∀ b, b < 0 → a ≠ b → (TJ3 a).2.1 ≠ (TJ3 b).2.1 := by decide +kernel
theorem tyJ3_ok : ∀ k, k < 0 → parseFieldDescriptor (TJ3 k).2.2.1 = some (tyJ3 k) := by decide +kernel
abbrev cJ3_checkIndex_8e157 : ByteArray := prog_24_method_11_code
def yJ3_checkIndex_8e157 : MethodName := ⟨RJ3, "checkIndex", "(IILjava/util/function/BiFunction;)I"⟩
abbrev cJ3_checkFromToIndex_8c36e : ByteArray := prog_24_method_12_code
def yJ3_checkFromToIndex_8c36e : MethodName := ⟨RJ3, "checkFromToIndex", "(IIILjava/util/function/BiFunction;)I"⟩
def RL : String := "DebtBridgeLaw"
abbrev cL_law : ByteArray := code
def yL_law : MethodName := ⟨RL, "law", "([I)Z"⟩
abbrev vwCl : List vw_C := [(RX0, TX0, 3), (RX1, TX1, 8), (RX2, TX2, 3), (RX3, TX3, 10), (RX4, TX4, 12), (RX5, TX5, 2), (RX6, TX6, 6), (RX7, TX7, 7), (RX8, TX8, 4), (RX9, TX9, 8), (RX10, TX10, 4), (RX11, TX11, 14), (RX12, TX12, 33)]

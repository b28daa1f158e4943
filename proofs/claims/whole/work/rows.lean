section
-- ===== PART A: goes FIRST, ahead of the names: the tables' words, and 'selects' of the private methods out of them =====
/-- a private method of a class that the tables say can be made, by its rows of tables_1 -/
def lw_okq (q : MethodName × Nat) : Prop := (q.1.cls ≠ "java/lang/invoke/MethodHandle" ∧ q.1.cls ≠ "java/lang/invoke/VarHandle") ∧ Cond.instantiable q.1.cls q.2 ∈ tables_1 ∧ Cond.privateMethod q.1 ∈ tables_1 ∧ Cond.instanceMethod q.1 ∈ tables_1
theorem lw_p0 : lw_okq (⟨"KeepForget", "putOnTape", "(I)V"⟩, 13) := ⟨⟨by decide +kernel, by decide +kernel⟩, List.mem_of_getElem? (i := 24) (by decide +kernel), List.mem_of_getElem? (i := 159) (by decide +kernel), List.mem_of_getElem? (i := 160) (by decide +kernel)⟩
theorem lw_p1 : lw_okq (⟨"KeepForget", "placesOf", "(LKeepForget$Thing;I)I"⟩, 13) := ⟨⟨by decide +kernel, by decide +kernel⟩, List.mem_of_getElem? (i := 24) (by decide +kernel), List.mem_of_getElem? (i := 207) (by decide +kernel), List.mem_of_getElem? (i := 208) (by decide +kernel)⟩
theorem lw_p2 : lw_okq (⟨"KeepForget", "setInForce", "()LKeepForget$RuleSet;"⟩, 13) := ⟨⟨by decide +kernel, by decide +kernel⟩, List.mem_of_getElem? (i := 24) (by decide +kernel), List.mem_of_getElem? (i := 211) (by decide +kernel), List.mem_of_getElem? (i := 212) (by decide +kernel)⟩
theorem lw_p3 : lw_okq (⟨"KeepForget", "numberInForce", "()I"⟩, 13) := ⟨⟨by decide +kernel, by decide +kernel⟩, List.mem_of_getElem? (i := 24) (by decide +kernel), List.mem_of_getElem? (i := 215) (by decide +kernel), List.mem_of_getElem? (i := 216) (by decide +kernel)⟩
theorem lw_p4 : lw_okq (⟨"java/lang/Throwable", "fillInStackTrace", "(I)Ljava/lang/Throwable;"⟩, 6) := ⟨⟨by decide +kernel, by decide +kernel⟩, List.mem_of_getElem? (i := 278) (by decide +kernel), List.mem_of_getElem? (i := 276) (by decide +kernel), List.mem_of_getElem? (i := 277) (by decide +kernel)⟩
theorem lw_p5 : lw_okq (⟨"KeepForget$RuleReader", "next", "()V"⟩, 7) := ⟨⟨by decide +kernel, by decide +kernel⟩, List.mem_of_getElem? (i := 395) (by decide +kernel), List.mem_of_getElem? (i := 430) (by decide +kernel), List.mem_of_getElem? (i := 431) (by decide +kernel)⟩
theorem lw_p6 : lw_okq (⟨"KeepForget$RuleReader", "readRule", "(LKeepForget$RuleSet;)Z"⟩, 7) := ⟨⟨by decide +kernel, by decide +kernel⟩, List.mem_of_getElem? (i := 395) (by decide +kernel), List.mem_of_getElem? (i := 440) (by decide +kernel), List.mem_of_getElem? (i := 441) (by decide +kernel)⟩
theorem lw_p7 : lw_okq (⟨"KeepForget$RuleReader", "ruleSort", "()I"⟩, 7) := ⟨⟨by decide +kernel, by decide +kernel⟩, List.mem_of_getElem? (i := 395) (by decide +kernel), List.mem_of_getElem? (i := 444) (by decide +kernel), List.mem_of_getElem? (i := 445) (by decide +kernel)⟩
theorem lw_p8 : lw_okq (⟨"KeepForget$RuleReader", "isWord", "(Ljava/lang/String;)Z"⟩, 7) := ⟨⟨by decide +kernel, by decide +kernel⟩, List.mem_of_getElem? (i := 395) (by decide +kernel), List.mem_of_getElem? (i := 449) (by decide +kernel), List.mem_of_getElem? (i := 450) (by decide +kernel)⟩
theorem lw_p9 : lw_okq (⟨"KeepForget$RuleReader", "fail", "(I)Z"⟩, 7) := ⟨⟨by decide +kernel, by decide +kernel⟩, List.mem_of_getElem? (i := 395) (by decide +kernel), List.mem_of_getElem? (i := 503) (by decide +kernel), List.mem_of_getElem? (i := 504) (by decide +kernel)⟩
theorem lw_p10 : lw_okq (⟨"KeepForget$RuleReader", "readWhat", "(LKeepForget$Rule;)Z"⟩, 7) := ⟨⟨by decide +kernel, by decide +kernel⟩, List.mem_of_getElem? (i := 395) (by decide +kernel), List.mem_of_getElem? (i := 568) (by decide +kernel), List.mem_of_getElem? (i := 569) (by decide +kernel)⟩
theorem lw_p11 : lw_okq (⟨"KeepForget$RuleReader", "bitOf", "(CI)I"⟩, 7) := ⟨⟨by decide +kernel, by decide +kernel⟩, List.mem_of_getElem? (i := 395) (by decide +kernel), List.mem_of_getElem? (i := 573) (by decide +kernel), List.mem_of_getElem? (i := 574) (by decide +kernel)⟩
theorem lw_p12 : lw_okq (⟨"KeepForget$RuleReader", "numbered", "(CI)I"⟩, 7) := ⟨⟨by decide +kernel, by decide +kernel⟩, List.mem_of_getElem? (i := 395) (by decide +kernel), List.mem_of_getElem? (i := 577) (by decide +kernel), List.mem_of_getElem? (i := 578) (by decide +kernel)⟩
theorem lw_p13 : lw_okq (⟨"KeepForget$RuleReader", "readStores", "(LKeepForget$Rule;)Z"⟩, 7) := ⟨⟨by decide +kernel, by decide +kernel⟩, List.mem_of_getElem? (i := 395) (by decide +kernel), List.mem_of_getElem? (i := 582) (by decide +kernel), List.mem_of_getElem? (i := 583) (by decide +kernel)⟩
theorem lw_p14 : lw_okq (⟨"KeepForget$RuleReader", "readTime", "(LKeepForget$Rule;)Z"⟩, 7) := ⟨⟨by decide +kernel, by decide +kernel⟩, List.mem_of_getElem? (i := 395) (by decide +kernel), List.mem_of_getElem? (i := 586) (by decide +kernel), List.mem_of_getElem? (i := 587) (by decide +kernel)⟩
theorem lw_p15 : lw_okq (⟨"KeepForget$RuleReader", "checkNumber", "()Z"⟩, 7) := ⟨⟨by decide +kernel, by decide +kernel⟩, List.mem_of_getElem? (i := 395) (by decide +kernel), List.mem_of_getElem? (i := 590) (by decide +kernel), List.mem_of_getElem? (i := 591) (by decide +kernel)⟩
def lw_privs_1 : List (MethodName × Nat) := [(⟨"KeepForget", "putOnTape", "(I)V"⟩, 13), (⟨"KeepForget", "placesOf", "(LKeepForget$Thing;I)I"⟩, 13), (⟨"KeepForget", "setInForce", "()LKeepForget$RuleSet;"⟩, 13), (⟨"KeepForget", "numberInForce", "()I"⟩, 13), (⟨"java/lang/Throwable", "fillInStackTrace", "(I)Ljava/lang/Throwable;"⟩, 6), (⟨"KeepForget$RuleReader", "next", "()V"⟩, 7), (⟨"KeepForget$RuleReader", "readRule", "(LKeepForget$RuleSet;)Z"⟩, 7), (⟨"KeepForget$RuleReader", "ruleSort", "()I"⟩, 7), (⟨"KeepForget$RuleReader", "isWord", "(Ljava/lang/String;)Z"⟩, 7), (⟨"KeepForget$RuleReader", "fail", "(I)Z"⟩, 7), (⟨"KeepForget$RuleReader", "readWhat", "(LKeepForget$Rule;)Z"⟩, 7), (⟨"KeepForget$RuleReader", "bitOf", "(CI)I"⟩, 7), (⟨"KeepForget$RuleReader", "numbered", "(CI)I"⟩, 7), (⟨"KeepForget$RuleReader", "readStores", "(LKeepForget$Rule;)Z"⟩, 7), (⟨"KeepForget$RuleReader", "readTime", "(LKeepForget$Rule;)Z"⟩, 7), (⟨"KeepForget$RuleReader", "checkNumber", "()Z"⟩, 7)]
theorem lw_r1 : ∀ q ∈ lw_privs_1, lw_okq q := List.forall_mem_cons.mpr ⟨lw_p0, List.forall_mem_cons.mpr ⟨lw_p1, List.forall_mem_cons.mpr ⟨lw_p2, List.forall_mem_cons.mpr ⟨lw_p3, List.forall_mem_cons.mpr ⟨lw_p4, List.forall_mem_cons.mpr ⟨lw_p5, List.forall_mem_cons.mpr ⟨lw_p6, List.forall_mem_cons.mpr ⟨lw_p7, List.forall_mem_cons.mpr ⟨lw_p8, List.forall_mem_cons.mpr ⟨lw_p9, List.forall_mem_cons.mpr ⟨lw_p10, List.forall_mem_cons.mpr ⟨lw_p11, List.forall_mem_cons.mpr ⟨lw_p12, List.forall_mem_cons.mpr ⟨lw_p13, List.forall_mem_cons.mpr ⟨lw_p14, List.forall_mem_cons.mpr ⟨lw_p15, fun _ h => absurd h List.not_mem_nil⟩⟩⟩⟩⟩⟩⟩⟩⟩⟩⟩⟩⟩⟩⟩⟩
theorem lw_p16 : lw_okq (⟨"KeepForget$RuleReader", "number", "()I"⟩, 7) := ⟨⟨by decide +kernel, by decide +kernel⟩, List.mem_of_getElem? (i := 395) (by decide +kernel), List.mem_of_getElem? (i := 594) (by decide +kernel), List.mem_of_getElem? (i := 595) (by decide +kernel)⟩
theorem lw_p17 : lw_okq (⟨"KeepForget$RuleReader", "readTests", "(LKeepForget$Rule;)Z"⟩, 7) := ⟨⟨by decide +kernel, by decide +kernel⟩, List.mem_of_getElem? (i := 395) (by decide +kernel), List.mem_of_getElem? (i := 602) (by decide +kernel), List.mem_of_getElem? (i := 603) (by decide +kernel)⟩
theorem lw_p18 : lw_okq (⟨"KeepForget$RuleReader", "readTest", "(LKeepForget$Rule;)Z"⟩, 7) := ⟨⟨by decide +kernel, by decide +kernel⟩, List.mem_of_getElem? (i := 395) (by decide +kernel), List.mem_of_getElem? (i := 607) (by decide +kernel), List.mem_of_getElem? (i := 608) (by decide +kernel)⟩
theorem lw_p19 : lw_okq (⟨"KeepForget$RuleReader", "isSign", "(C)Z"⟩, 7) := ⟨⟨by decide +kernel, by decide +kernel⟩, List.mem_of_getElem? (i := 395) (by decide +kernel), List.mem_of_getElem? (i := 611) (by decide +kernel), List.mem_of_getElem? (i := 612) (by decide +kernel)⟩
theorem lw_p20 : lw_okq (⟨"KeepForget$RuleReader", "readRank", "(LKeepForget$Rule;)Z"⟩, 7) := ⟨⟨by decide +kernel, by decide +kernel⟩, List.mem_of_getElem? (i := 395) (by decide +kernel), List.mem_of_getElem? (i := 616) (by decide +kernel), List.mem_of_getElem? (i := 617) (by decide +kernel)⟩
theorem lw_p21 : lw_okq (⟨"KeepForget$RuleSet", "putInTurn", "(II)V"⟩, 5) := ⟨⟨by decide +kernel, by decide +kernel⟩, List.mem_of_getElem? (i := 365) (by decide +kernel), List.mem_of_getElem? (i := 626) (by decide +kernel), List.mem_of_getElem? (i := 627) (by decide +kernel)⟩
theorem lw_p22 : lw_okq (⟨"KeepForget", "thingAt", "(I)LKeepForget$Thing;"⟩, 13) := ⟨⟨by decide +kernel, by decide +kernel⟩, List.mem_of_getElem? (i := 24) (by decide +kernel), List.mem_of_getElem? (i := 638) (by decide +kernel), List.mem_of_getElem? (i := 639) (by decide +kernel)⟩
theorem lw_p23 : lw_okq (⟨"KeepForget", "heldFields", "(LKeepForget$Thing;)I"⟩, 13) := ⟨⟨by decide +kernel, by decide +kernel⟩, List.mem_of_getElem? (i := 24) (by decide +kernel), List.mem_of_getElem? (i := 734) (by decide +kernel), List.mem_of_getElem? (i := 735) (by decide +kernel)⟩
theorem lw_p24 : lw_okq (⟨"KeepForget$Span", "take", "(III)V"⟩, 8) := ⟨⟨by decide +kernel, by decide +kernel⟩, List.mem_of_getElem? (i := 75) (by decide +kernel), List.mem_of_getElem? (i := 758) (by decide +kernel), List.mem_of_getElem? (i := 759) (by decide +kernel)⟩
theorem lw_p25 : lw_okq (⟨"KeepForget$Span", "keepUntil", "(II)V"⟩, 8) := ⟨⟨by decide +kernel, by decide +kernel⟩, List.mem_of_getElem? (i := 75) (by decide +kernel), List.mem_of_getElem? (i := 762) (by decide +kernel), List.mem_of_getElem? (i := 763) (by decide +kernel)⟩
theorem lw_p26 : lw_okq (⟨"KeepForget$Span", "lose", "(I)V"⟩, 8) := ⟨⟨by decide +kernel, by decide +kernel⟩, List.mem_of_getElem? (i := 75) (by decide +kernel), List.mem_of_getElem? (i := 766) (by decide +kernel), List.mem_of_getElem? (i := 767) (by decide +kernel)⟩
theorem lw_p27 : lw_okq (⟨"KeepForget$Span", "endAt", "(II)V"⟩, 8) := ⟨⟨by decide +kernel, by decide +kernel⟩, List.mem_of_getElem? (i := 75) (by decide +kernel), List.mem_of_getElem? (i := 770) (by decide +kernel), List.mem_of_getElem? (i := 771) (by decide +kernel)⟩
theorem lw_p28 : lw_okq (⟨"KeepForget", "chosenSet", "(I)LKeepForget$RuleSet;"⟩, 13) := ⟨⟨by decide +kernel, by decide +kernel⟩, List.mem_of_getElem? (i := 24) (by decide +kernel), List.mem_of_getElem? (i := 785) (by decide +kernel), List.mem_of_getElem? (i := 786) (by decide +kernel)⟩
theorem lw_p29 : lw_okq (⟨"KeepForget", "setAt", "(I)LKeepForget$RuleSet;"⟩, 13) := ⟨⟨by decide +kernel, by decide +kernel⟩, List.mem_of_getElem? (i := 24) (by decide +kernel), List.mem_of_getElem? (i := 789) (by decide +kernel), List.mem_of_getElem? (i := 790) (by decide +kernel)⟩
theorem lw_p30 : lw_okq (⟨"KeepForget", "plannedDay", "(LKeepForget$Thing;IILKeepForget$RuleSet;)I"⟩, 13) := ⟨⟨by decide +kernel, by decide +kernel⟩, List.mem_of_getElem? (i := 24) (by decide +kernel), List.mem_of_getElem? (i := 824) (by decide +kernel), List.mem_of_getElem? (i := 825) (by decide +kernel)⟩
theorem lw_p31 : lw_okq (⟨"KeepForget", "nextBusyDay", "(I)I"⟩, 13) := ⟨⟨by decide +kernel, by decide +kernel⟩, List.mem_of_getElem? (i := 24) (by decide +kernel), List.mem_of_getElem? (i := 860) (by decide +kernel), List.mem_of_getElem? (i := 861) (by decide +kernel)⟩
def lw_privs_2 : List (MethodName × Nat) := [(⟨"KeepForget$RuleReader", "number", "()I"⟩, 7), (⟨"KeepForget$RuleReader", "readTests", "(LKeepForget$Rule;)Z"⟩, 7), (⟨"KeepForget$RuleReader", "readTest", "(LKeepForget$Rule;)Z"⟩, 7), (⟨"KeepForget$RuleReader", "isSign", "(C)Z"⟩, 7), (⟨"KeepForget$RuleReader", "readRank", "(LKeepForget$Rule;)Z"⟩, 7), (⟨"KeepForget$RuleSet", "putInTurn", "(II)V"⟩, 5), (⟨"KeepForget", "thingAt", "(I)LKeepForget$Thing;"⟩, 13), (⟨"KeepForget", "heldFields", "(LKeepForget$Thing;)I"⟩, 13), (⟨"KeepForget$Span", "take", "(III)V"⟩, 8), (⟨"KeepForget$Span", "keepUntil", "(II)V"⟩, 8), (⟨"KeepForget$Span", "lose", "(I)V"⟩, 8), (⟨"KeepForget$Span", "endAt", "(II)V"⟩, 8), (⟨"KeepForget", "chosenSet", "(I)LKeepForget$RuleSet;"⟩, 13), (⟨"KeepForget", "setAt", "(I)LKeepForget$RuleSet;"⟩, 13), (⟨"KeepForget", "plannedDay", "(LKeepForget$Thing;IILKeepForget$RuleSet;)I"⟩, 13), (⟨"KeepForget", "nextBusyDay", "(I)I"⟩, 13)]
theorem lw_r2 : ∀ q ∈ lw_privs_2, lw_okq q := List.forall_mem_cons.mpr ⟨lw_p16, List.forall_mem_cons.mpr ⟨lw_p17, List.forall_mem_cons.mpr ⟨lw_p18, List.forall_mem_cons.mpr ⟨lw_p19, List.forall_mem_cons.mpr ⟨lw_p20, List.forall_mem_cons.mpr ⟨lw_p21, List.forall_mem_cons.mpr ⟨lw_p22, List.forall_mem_cons.mpr ⟨lw_p23, List.forall_mem_cons.mpr ⟨lw_p24, List.forall_mem_cons.mpr ⟨lw_p25, List.forall_mem_cons.mpr ⟨lw_p26, List.forall_mem_cons.mpr ⟨lw_p27, List.forall_mem_cons.mpr ⟨lw_p28, List.forall_mem_cons.mpr ⟨lw_p29, List.forall_mem_cons.mpr ⟨lw_p30, List.forall_mem_cons.mpr ⟨lw_p31, fun _ h => absurd h List.not_mem_nil⟩⟩⟩⟩⟩⟩⟩⟩⟩⟩⟩⟩⟩⟩⟩⟩
theorem lw_p32 : lw_okq (⟨"KeepForget", "sweep", "(I)V"⟩, 13) := ⟨⟨by decide +kernel, by decide +kernel⟩, List.mem_of_getElem? (i := 24) (by decide +kernel), List.mem_of_getElem? (i := 865) (by decide +kernel), List.mem_of_getElem? (i := 866) (by decide +kernel)⟩
theorem lw_p33 : lw_okq (⟨"KeepForget", "copyCount", "()I"⟩, 13) := ⟨⟨by decide +kernel, by decide +kernel⟩, List.mem_of_getElem? (i := 24) (by decide +kernel), List.mem_of_getElem? (i := 888) (by decide +kernel), List.mem_of_getElem? (i := 889) (by decide +kernel)⟩
theorem lw_p34 : lw_okq (⟨"KeepForget", "openHoldCount", "()I"⟩, 13) := ⟨⟨by decide +kernel, by decide +kernel⟩, List.mem_of_getElem? (i := 24) (by decide +kernel), List.mem_of_getElem? (i := 892) (by decide +kernel), List.mem_of_getElem? (i := 893) (by decide +kernel)⟩
theorem lw_p35 : lw_okq (⟨"KeepForgetModel", "fail", "(I)I"⟩, 60) := ⟨⟨by decide +kernel, by decide +kernel⟩, List.mem_of_getElem? (i := 897) (by decide +kernel), List.mem_of_getElem? (i := 1108) (by decide +kernel), List.mem_of_getElem? (i := 1109) (by decide +kernel)⟩
theorem lw_p36 : lw_okq (⟨"KeepForgetModel", "step", "()V"⟩, 60) := ⟨⟨by decide +kernel, by decide +kernel⟩, List.mem_of_getElem? (i := 897) (by decide +kernel), List.mem_of_getElem? (i := 1143) (by decide +kernel), List.mem_of_getElem? (i := 1144) (by decide +kernel)⟩
theorem lw_p37 : lw_okq (⟨"KeepForgetModel", "byteAt", "(I)I"⟩, 60) := ⟨⟨by decide +kernel, by decide +kernel⟩, List.mem_of_getElem? (i := 897) (by decide +kernel), List.mem_of_getElem? (i := 1147) (by decide +kernel), List.mem_of_getElem? (i := 1148) (by decide +kernel)⟩
theorem lw_p38 : lw_okq (⟨"KeepForgetModel", "isWord", "(Ljava/lang/String;)Z"⟩, 60) := ⟨⟨by decide +kernel, by decide +kernel⟩, List.mem_of_getElem? (i := 897) (by decide +kernel), List.mem_of_getElem? (i := 1158) (by decide +kernel), List.mem_of_getElem? (i := 1159) (by decide +kernel)⟩
theorem lw_p39 : lw_okq (⟨"KeepForgetModel", "wrong", "(I)V"⟩, 60) := ⟨⟨by decide +kernel, by decide +kernel⟩, List.mem_of_getElem? (i := 897) (by decide +kernel), List.mem_of_getElem? (i := 1166) (by decide +kernel), List.mem_of_getElem? (i := 1167) (by decide +kernel)⟩
theorem lw_p40 : lw_okq (⟨"KeepForgetModel", "readRule", "()V"⟩, 60) := ⟨⟨by decide +kernel, by decide +kernel⟩, List.mem_of_getElem? (i := 897) (by decide +kernel), List.mem_of_getElem? (i := 1170) (by decide +kernel), List.mem_of_getElem? (i := 1171) (by decide +kernel)⟩
theorem lw_p41 : lw_okq (⟨"KeepForgetModel", "readWhat", "()V"⟩, 60) := ⟨⟨by decide +kernel, by decide +kernel⟩, List.mem_of_getElem? (i := 897) (by decide +kernel), List.mem_of_getElem? (i := 1174) (by decide +kernel), List.mem_of_getElem? (i := 1175) (by decide +kernel)⟩
theorem lw_p42 : lw_okq (⟨"KeepForgetModel", "readNumbered", "(II)I"⟩, 60) := ⟨⟨by decide +kernel, by decide +kernel⟩, List.mem_of_getElem? (i := 897) (by decide +kernel), List.mem_of_getElem? (i := 1179) (by decide +kernel), List.mem_of_getElem? (i := 1180) (by decide +kernel)⟩
theorem lw_p43 : lw_okq (⟨"KeepForgetModel", "numbered", "(II)I"⟩, 60) := ⟨⟨by decide +kernel, by decide +kernel⟩, List.mem_of_getElem? (i := 897) (by decide +kernel), List.mem_of_getElem? (i := 1183) (by decide +kernel), List.mem_of_getElem? (i := 1184) (by decide +kernel)⟩
theorem lw_p44 : lw_okq (⟨"KeepForgetModel", "readNumber", "()I"⟩, 60) := ⟨⟨by decide +kernel, by decide +kernel⟩, List.mem_of_getElem? (i := 897) (by decide +kernel), List.mem_of_getElem? (i := 1188) (by decide +kernel), List.mem_of_getElem? (i := 1189) (by decide +kernel)⟩
theorem lw_p45 : lw_okq (⟨"KeepForgetModel", "word", "(Ljava/lang/String;)V"⟩, 60) := ⟨⟨by decide +kernel, by decide +kernel⟩, List.mem_of_getElem? (i := 897) (by decide +kernel), List.mem_of_getElem? (i := 1196) (by decide +kernel), List.mem_of_getElem? (i := 1197) (by decide +kernel)⟩
theorem lw_p46 : lw_okq (⟨"KeepForgetModel", "readTests", "()V"⟩, 60) := ⟨⟨by decide +kernel, by decide +kernel⟩, List.mem_of_getElem? (i := 897) (by decide +kernel), List.mem_of_getElem? (i := 1200) (by decide +kernel), List.mem_of_getElem? (i := 1201) (by decide +kernel)⟩
theorem lw_p47 : lw_okq (⟨"KeepForgetModel", "isThing", "(I)Z"⟩, 60) := ⟨⟨by decide +kernel, by decide +kernel⟩, List.mem_of_getElem? (i := 897) (by decide +kernel), List.mem_of_getElem? (i := 1219) (by decide +kernel), List.mem_of_getElem? (i := 1220) (by decide +kernel)⟩
def lw_privs_3 : List (MethodName × Nat) := [(⟨"KeepForget", "sweep", "(I)V"⟩, 13), (⟨"KeepForget", "copyCount", "()I"⟩, 13), (⟨"KeepForget", "openHoldCount", "()I"⟩, 13), (⟨"KeepForgetModel", "fail", "(I)I"⟩, 60), (⟨"KeepForgetModel", "step", "()V"⟩, 60), (⟨"KeepForgetModel", "byteAt", "(I)I"⟩, 60), (⟨"KeepForgetModel", "isWord", "(Ljava/lang/String;)Z"⟩, 60), (⟨"KeepForgetModel", "wrong", "(I)V"⟩, 60), (⟨"KeepForgetModel", "readRule", "()V"⟩, 60), (⟨"KeepForgetModel", "readWhat", "()V"⟩, 60), (⟨"KeepForgetModel", "readNumbered", "(II)I"⟩, 60), (⟨"KeepForgetModel", "numbered", "(II)I"⟩, 60), (⟨"KeepForgetModel", "readNumber", "()I"⟩, 60), (⟨"KeepForgetModel", "word", "(Ljava/lang/String;)V"⟩, 60), (⟨"KeepForgetModel", "readTests", "()V"⟩, 60), (⟨"KeepForgetModel", "isThing", "(I)Z"⟩, 60)]
theorem lw_r3 : ∀ q ∈ lw_privs_3, lw_okq q := List.forall_mem_cons.mpr ⟨lw_p32, List.forall_mem_cons.mpr ⟨lw_p33, List.forall_mem_cons.mpr ⟨lw_p34, List.forall_mem_cons.mpr ⟨lw_p35, List.forall_mem_cons.mpr ⟨lw_p36, List.forall_mem_cons.mpr ⟨lw_p37, List.forall_mem_cons.mpr ⟨lw_p38, List.forall_mem_cons.mpr ⟨lw_p39, List.forall_mem_cons.mpr ⟨lw_p40, List.forall_mem_cons.mpr ⟨lw_p41, List.forall_mem_cons.mpr ⟨lw_p42, List.forall_mem_cons.mpr ⟨lw_p43, List.forall_mem_cons.mpr ⟨lw_p44, List.forall_mem_cons.mpr ⟨lw_p45, List.forall_mem_cons.mpr ⟨lw_p46, List.forall_mem_cons.mpr ⟨lw_p47, fun _ h => absurd h List.not_mem_nil⟩⟩⟩⟩⟩⟩⟩⟩⟩⟩⟩⟩⟩⟩⟩⟩
theorem lw_p48 : lw_okq (⟨"KeepForgetModel", "placesOf", "(II)I"⟩, 60) := ⟨⟨by decide +kernel, by decide +kernel⟩, List.mem_of_getElem? (i := 897) (by decide +kernel), List.mem_of_getElem? (i := 1237) (by decide +kernel), List.mem_of_getElem? (i := 1238) (by decide +kernel)⟩
theorem lw_p49 : lw_okq (⟨"KeepForgetModel", "force", "(I)I"⟩, 60) := ⟨⟨by decide +kernel, by decide +kernel⟩, List.mem_of_getElem? (i := 897) (by decide +kernel), List.mem_of_getElem? (i := 1241) (by decide +kernel), List.mem_of_getElem? (i := 1242) (by decide +kernel)⟩
theorem lw_p50 : lw_okq (⟨"KeepForgetModel", "isFor", "(III)Z"⟩, 60) := ⟨⟨by decide +kernel, by decide +kernel⟩, List.mem_of_getElem? (i := 897) (by decide +kernel), List.mem_of_getElem? (i := 1245) (by decide +kernel), List.mem_of_getElem? (i := 1246) (by decide +kernel)⟩
theorem lw_p51 : lw_okq (⟨"KeepForgetModel", "isDue", "(III)Z"⟩, 60) := ⟨⟨by decide +kernel, by decide +kernel⟩, List.mem_of_getElem? (i := 897) (by decide +kernel), List.mem_of_getElem? (i := 1269) (by decide +kernel), List.mem_of_getElem? (i := 1270) (by decide +kernel)⟩
theorem lw_p52 : lw_okq (⟨"KeepForgetModel", "know", "(II)V"⟩, 60) := ⟨⟨by decide +kernel, by decide +kernel⟩, List.mem_of_getElem? (i := 897) (by decide +kernel), List.mem_of_getElem? (i := 1273) (by decide +kernel), List.mem_of_getElem? (i := 1274) (by decide +kernel)⟩
theorem lw_p53 : lw_okq (⟨"KeepForgetModel", "tell", "(III)V"⟩, 60) := ⟨⟨by decide +kernel, by decide +kernel⟩, List.mem_of_getElem? (i := 897) (by decide +kernel), List.mem_of_getElem? (i := 1277) (by decide +kernel), List.mem_of_getElem? (i := 1278) (by decide +kernel)⟩
theorem lw_p54 : lw_okq (⟨"KeepForgetModel", "bid", "(III)V"⟩, 60) := ⟨⟨by decide +kernel, by decide +kernel⟩, List.mem_of_getElem? (i := 897) (by decide +kernel), List.mem_of_getElem? (i := 1282) (by decide +kernel), List.mem_of_getElem? (i := 1283) (by decide +kernel)⟩
theorem lw_p55 : lw_okq (⟨"KeepForgetModel", "until", "(II)I"⟩, 60) := ⟨⟨by decide +kernel, by decide +kernel⟩, List.mem_of_getElem? (i := 897) (by decide +kernel), List.mem_of_getElem? (i := 1286) (by decide +kernel), List.mem_of_getElem? (i := 1287) (by decide +kernel)⟩
theorem lw_p56 : lw_okq (⟨"KeepForgetModel", "isHeld", "(II)Z"⟩, 60) := ⟨⟨by decide +kernel, by decide +kernel⟩, List.mem_of_getElem? (i := 897) (by decide +kernel), List.mem_of_getElem? (i := 1290) (by decide +kernel), List.mem_of_getElem? (i := 1291) (by decide +kernel)⟩
theorem lw_p57 : lw_okq (⟨"KeepForgetModel", "isSet", "(I)Z"⟩, 60) := ⟨⟨by decide +kernel, by decide +kernel⟩, List.mem_of_getElem? (i := 897) (by decide +kernel), List.mem_of_getElem? (i := 1298) (by decide +kernel), List.mem_of_getElem? (i := 1299) (by decide +kernel)⟩
theorem lw_p58 : lw_okq (⟨"KeepForgetModel", "sweep", "(I)V"⟩, 60) := ⟨⟨by decide +kernel, by decide +kernel⟩, List.mem_of_getElem? (i := 897) (by decide +kernel), List.mem_of_getElem? (i := 1337) (by decide +kernel), List.mem_of_getElem? (i := 1338) (by decide +kernel)⟩
def lw_privs_4 : List (MethodName × Nat) := [(⟨"KeepForgetModel", "placesOf", "(II)I"⟩, 60), (⟨"KeepForgetModel", "force", "(I)I"⟩, 60), (⟨"KeepForgetModel", "isFor", "(III)Z"⟩, 60), (⟨"KeepForgetModel", "isDue", "(III)Z"⟩, 60), (⟨"KeepForgetModel", "know", "(II)V"⟩, 60), (⟨"KeepForgetModel", "tell", "(III)V"⟩, 60), (⟨"KeepForgetModel", "bid", "(III)V"⟩, 60), (⟨"KeepForgetModel", "until", "(II)I"⟩, 60), (⟨"KeepForgetModel", "isHeld", "(II)Z"⟩, 60), (⟨"KeepForgetModel", "isSet", "(I)Z"⟩, 60), (⟨"KeepForgetModel", "sweep", "(I)V"⟩, 60)]
theorem lw_r4 : ∀ q ∈ lw_privs_4, lw_okq q := List.forall_mem_cons.mpr ⟨lw_p48, List.forall_mem_cons.mpr ⟨lw_p49, List.forall_mem_cons.mpr ⟨lw_p50, List.forall_mem_cons.mpr ⟨lw_p51, List.forall_mem_cons.mpr ⟨lw_p52, List.forall_mem_cons.mpr ⟨lw_p53, List.forall_mem_cons.mpr ⟨lw_p54, List.forall_mem_cons.mpr ⟨lw_p55, List.forall_mem_cons.mpr ⟨lw_p56, List.forall_mem_cons.mpr ⟨lw_p57, List.forall_mem_cons.mpr ⟨lw_p58, fun _ h => absurd h List.not_mem_nil⟩⟩⟩⟩⟩⟩⟩⟩⟩⟩⟩
def lw_privs : List (MethodName × Nat) := lw_privs_1 ++ (lw_privs_2 ++ (lw_privs_3 ++ (lw_privs_4)))
def lw_tbl : List Cond := k2_sels lw_privs ++ tables_1
theorem lw_privs_ok : ∀ q ∈ lw_privs, lw_okq q := by
  show ∀ q ∈ lw_privs_1 ++ (lw_privs_2 ++ (lw_privs_3 ++ (lw_privs_4))), lw_okq q
  exact List.forall_mem_append.mpr ⟨lw_r1, List.forall_mem_append.mpr ⟨lw_r2, List.forall_mem_append.mpr ⟨lw_r3, lw_r4⟩⟩⟩
end
section
/-! ===== BEGIN words of one list among another's, by their places ===== -/
theorem goodIn_r {big : List Cond} (ws : List Cond) (ps : List Nat) (hp : ws = ps.filterMap (fun i => big[i]?)) (h : ws.all goodWord = true) : GoodIn big ws := by
  intro w hw
  have h1 := List.all_eq_true.mp h w hw
  rw [hp] at hw
  obtain ⟨i, -, hi⟩ := List.mem_filterMap.mp hw
  have hm : w ∈ big := by first | exact List.mem_of_getElem? hi | exact List.getElem?_mem hi
  exact ⟨hm, good_of_word h1⟩
theorem goodIn_app {big a b : List Cond} (ha : GoodIn big a) (hb : GoodIn big b) : GoodIn big (a ++ b) := fun w h => (List.mem_append.mp h).elim (ha w) (hb w)
theorem goodIn_ca {big a b : List Cond} {c : Cond} (ha : GoodIn big (c :: a)) (hb : GoodIn big b) : GoodIn big (c :: (a ++ b)) := fun w h => (List.mem_cons.mp h).elim (fun e => ha w (List.mem_cons.mpr (Or.inl e))) (fun h => (List.mem_append.mp h).elim (fun h => ha w (List.mem_cons.mpr (Or.inr h))) (hb w))
theorem goodIn_sub {big ws : List Cond} (hm : ∀ w ∈ ws, w ∈ big) (h : ws.all goodWord = true) : GoodIn big ws := fun w hw => ⟨hm w hw, good_of_word (List.all_eq_true.mp h w hw)⟩
/-! ===== END ===== -/

/-! ===== BEGIN exceptions that leave a method, and their catching by the caller (launches without stack traces) ===== -/
section VXA
/-! The laws vx_back, vx_callV, vx_callS, vx_callSW, vx_throw0, vx_throwS follow proofs of the library, with one case more: JvmDerived/Free/Laws.lean (Back.of_free), Shelf42/LK1.lean (callV, callS), Shelf/KitTraced.lean (throwNew0V, throwNewS). -/
/-- where a method has thrown q: the class by its name, the cell, what was written, the world -/
def vx_T (XC : String → State → State → Prop) (st : State) (q : Addr) (t : State) (mc ms : Nat) (free : Addr → Prop) : Prop :=
  ∃ (E : String) (ce : Cell) (L : List Loc), XC E st t ∧ t.heap[q]? = some ce ∧ ce.vm = .none ∧ st.vm.findClass E = some ce.cls ∧ st.WarmedH t.vm ∧ st.sameButNew ({ t with vm := st.vm } : State) L mc ms ∧ ∀ z ∈ L, free z.base
def vx_Q (Qc : Array Value → State → Outcome → State → Prop) (XC : String → State → State → Prop) (mc ms : Nat) (free : Addr → Prop) : Array Value → State → Outcome → State → Prop := fun a st o t =>
  (Qc a st o t ∧ ∃ L, FrameEnd st o t L mc ms ∧ ∀ q ∈ L, free q.base) ∨ ∃ q, o = .threw q ∧ vx_T XC st q t mc ms free
/-- a callee that returns or throws -/
def vx_Met (l : Launch) (y : MethodName) (ws : List Cond) (rm : Room) (Pc : Array Value → State → Prop) (Qc : Array Value → State → Outcome → State → Prop) (XC : String → State → State → Prop) (mc ms : Nat) (free : Addr → Prop) : Prop :=
  MetFree l y (headSpec ws rm) Pc (fun _ _ _ _ _ => True) (vx_Q Qc XC mc ms free)
def vx_Post (XC : String → State → State → Prop) (mc ms : Nat) (free : Addr → Prop) : Pt → Array Value → Addr → Pt → Prop := fun A a q B =>
  ∃ (g : JFrame) (mk : MethodId) (t : State) (L : List Loc) (E : String) (ce : Cell), B.U.heap = t.heap ∧ B.U.vm = t.vm ∧ XC E (A.U.calling g mk a) t ∧ t.heap[q]? = some ce ∧ ce.vm = .none ∧ A.U.vm.findClass E = some ce.cls ∧ B.locs = A.locs ++ L ∧ (∀ z ∈ L, free z.base) ∧ B.cells = A.cells + mc ∧ B.slots = A.slots + ms
def vx_Back (l : Launch) (R : Room) (p : Program) (e : Env) (below : List Frame) (s : State) (sargs : Array Value) (y : MethodName) (len W9 : Nat)
    (Pre : Pt → Array Value → Prop) (Post : Pt → Array Value → Option Value → Pt → Prop) (PostX : Pt → Array Value → Addr → Pt → Prop) : Prop :=
  ∀ (m : MethodId) (meth : Method) (c : Code) (A : Pt) (g : JFrame) (ig : Instr) (mk : MethodId) (a : Array Value),
    Stand p l e R s m sargs below meth c A.U A.locs A.cells A.slots → g.method = m → g.locals.size = c.maxLocals → decode c.code g.pc = .ok (ig, len) →
    2 * g.monitorRoom + (g.stack.map fun v => v.category).sum ≤ W9 → A.U.methodNamed? y = some mk → Pre A a →
    (∃ (v : Option Value) (B : Pt), Stand p l e R s m sargs below meth c B.U B.locs B.cells B.slots ∧ Post A a v B ∧
      Steps p.tables e below (doInvoke e (A.U.setTop g) [] mk a).1 (B.U.setTop { g with pc := g.pc + len, stack := v.toList ++ g.stack })) ∨
    (∃ (q : Addr) (B : Pt), Stand p l e R s m sargs below meth c B.U B.locs B.cells B.slots ∧ PostX A a q B ∧
      Steps p.tables e below (doInvoke e (A.U.setTop g) [] mk a).1 ((B.U.setTop g).pushFrame (.throwing q)))
section Payer
variable {l : Launch} {R : Room} {p : Program} {e : Env} {below : List Frame} {s : State} {sargs : Array Value} {y : MethodName} {len W9 : Nat}
theorem vx_back {ws : List Cond} {rm : Room} {Pc : Array Value → State → Prop} {Qc : Array Value → State → Outcome → State → Prop} {XC : String → State → State → Prop} {mc ms : Nat} {free : Addr → Prop} {bytes : ByteArray} {maxL : Nat} {ret : Option FieldType}
    (hM : vx_Met l y ws rm Pc Qc XC mc ms free) (hblind : FrameBlind Pc) (hrc : rm.cells = mc) (hrs : rm.slots = ms)
    (hframes : rm.frames + 1 ≤ R.frames) (hlocals : W9 + (maxL + 11) + rm.locals ≤ R.locals)
    (hws : ∀ w ∈ ws, ∀ a' U, s.WarmedH U.vm → w.before a' U = true) (hcode : Cond.code y bytes maxL ret ∈ ws) (hinit : ∀ a' U, s.WarmedH U.vm → (Cond.initialized y.cls).before a' U = true) :
    vx_Back l R p e below s sargs y len W9 (PreOf R mc ms Pc) (PostOf Qc mc ms free) (vx_Post XC mc ms free) := by
  intro m meth c A g ig mk a X hg hsize hdg hW hn hp
  have h1 : (headSpec ws rm).pre.before a A.U = true := atoms_intro fun w hw => hws w hw _ _ X.warmed
  have h2 : (Cond.code y bytes maxL ret).before a A.U = true := hws _ hcode _ _ X.warmed
  have h3 : (Cond.initialized y.cls).before a A.U = true := hinit _ _ X.warmed
  have h4 : A.cells + (headSpec ws rm).room.cells ≤ R.cells := by rw [show (headSpec ws rm).room.cells = mc from hrc]; exact hp.1
  have h5 : A.slots + (headSpec ws rm).room.slots ≤ R.slots := by rw [show (headSpec ws rm).room.slots = ms from hrs]; exact hp.2.1
  have hPc : Pc a (A.U.calling g mk a) := hblind _ _ _ _ hp.2.2
  obtain ⟨U, Ls, c0, s0⟩ := A
  dsimp only [Pt.U, Pt.locs, Pt.cells, Pt.slots] at h1 h2 h3 h4 h5 X hn hPc ⊢
  obtain ⟨methY, cY, hmY, hcY, -, hlY, -, -, -, -⟩ := Cond.code_spec hn h2
  obtain ⟨kY, hkY, -⟩ := className_of_methodNamed hn
  have hinitY : kY.init = .initialized := Cond.initialized_spec (findClass_of_methodNamed hn) hkY h3
  have h : At U g.method c below := by rw [hg]; exact X.here
  have hlocals9 : W9 + (maxL + 11) + (headSpec ws rm).room.locals ≤ R.locals := hlocals
  have happ : (headSpec ws rm).appliesLoose y e.platform (U.calling g mk a) = true :=
    Spec.appliesLoose_calling (g := g) h hdg hn hkY hinitY
      (X.room_calling (g := g) (R' := (headSpec ws rm).room) hsize hmY hcY hframes (by rw [hlY]; omega) h4 h5) h1
  obtain ⟨mid, hmid⟩ := h.above
  have hfr : (U.setTop g).frames = (.java g :: mid) ++ below := by rw [State.frames_setTop' g h.top, hmid]; rfl
  obtain ⟨o, s₂, hsteps, -, hend, hq⟩ := Steps.callFree hM p X.admits X.cas X.clock (acts := []) hfr happ hPc trivial
  have hq' : vx_Q Qc XC mc ms free a (U.calling g mk a) o s₂ := hq
  rw [State.frames_setTop' g h.top] at hend
  obtain ⟨g₀, hg0⟩ := Option.isSome_iff_exists.mp h.top
  obtain ⟨r, hr⟩ := State.topJava?_eq_some.mp hg0
  have hr' : (({ U with heap := s₂.heap, slotsUsed := s₂.slotsUsed } : State).setVm s₂.vm).frames = .java g₀ :: r := hr
  rcases hq' with ⟨hqc, L, hfe, hL⟩ | ⟨q, rfl, E, ce, L, hx, hce, hcv, hcl, hW₂, hsm, hL⟩
  · obtain ⟨⟨v, rfl⟩, hW₂, e2, q2, q3, q4, q5, q6⟩ := id hfe
    have e3 : s₂ = ({ (U.calling g mk a).setFrames s₂.frames with heap := s₂.heap, slotsUsed := s₂.slotsUsed } : State).setVm s₂.vm := by
      have : s₂ = ({ s₂ with vm := (U.calling g mk a).vm } : State).setVm s₂.vm := rfl
      rw [e2] at this
      exact this
    obtain ⟨c₂, i₂, len₂, hc₂, hd₂, hf₂⟩ := hend
    have hW' : U.WarmedH s₂.vm := hW₂
    have hcc : c₂ = c := by
      have h1 : s₂.code? g.method = U.code? g.method := by
        rw [State.code?_eq, State.code?_eq, hW'.alike.method?]
      exact Option.some.inj (hc₂.symm.trans (h1.trans h.code))
    subst hcc
    have hlen : len₂ = len := by rw [hdg] at hd₂; cases hd₂; rfl
    subst hlen
    have hs₂ : s₂ = (({ U with heap := s₂.heap, slotsUsed := s₂.slotsUsed } : State).setVm s₂.vm).setTop { g with pc := g.pc + len₂, stack := v.toList ++ g.stack } := by
      refine e3.trans ?_
      rw [hf₂, State.calling_eq h.top, State.setFrames_setFrames, State.setTop_of_frames _ hr', hr]
      rfl
    have hsame : U.sameButNew ({ U with heap := s₂.heap, slotsUsed := s₂.slotsUsed } : State) L mc ms := by
      refine ⟨?_, q2, q3, q4, q5, q6⟩
      obtain ⟨t, ht, -⟩ := State.frames_cons hr
      show ({ U with heap := s₂.heap, slotsUsed := s₂.slotsUsed } : State) = { U.setFrames U.frames with heap := s₂.heap, slotsUsed := s₂.slotsUsed }
      rw [State.setFrames_self ht]
    subst hg
    refine Or.inl ⟨v, ⟨(({ U with heap := s₂.heap, slotsUsed := s₂.slotsUsed } : State).setVm s₂.vm), Ls ++ L, c0 + mc, s0 + ms⟩,
      ⟨X.admits, X.cas, X.clock, X.frames, X.room, X.hears, X.method, X.code, (X.here.setHeapUsed s₂.heap s₂.slotsUsed).setVm hW'.alike, X.tail, State.WarmedH.trans X.warmed hW', X.limits, X.bytes, X.same.trans (hsame.setVm s.vm)⟩,
      ⟨g, mk, s₂, L, rfl, rfl, hqc, rfl, hL, rfl, rfl⟩, ?_⟩
    show Steps p.tables e below _ ((({ U with heap := s₂.heap, slotsUsed := s₂.slotsUsed } : State).setVm s₂.vm).setTop { g with pc := g.pc + len₂, stack := v.toList ++ g.stack })
    rw [← hs₂]
    exact hsteps
  · obtain ⟨e2, q2, q3, q4, q5, q6⟩ := id hsm
    have e3 : s₂ = ({ (U.calling g mk a).setFrames s₂.frames with heap := s₂.heap, slotsUsed := s₂.slotsUsed } : State).setVm s₂.vm := by
      have : s₂ = ({ s₂ with vm := (U.calling g mk a).vm } : State).setVm s₂.vm := rfl
      rw [e2] at this
      exact this
    have hf₂ : s₂.frames = .throwing q :: .java g :: U.frames.tail := hend
    have hW' : U.WarmedH s₂.vm := hW₂
    have hs₂ : s₂ = ((({ U with heap := s₂.heap, slotsUsed := s₂.slotsUsed } : State).setVm s₂.vm).setTop g).pushFrame (.throwing q) := by
      refine e3.trans ?_
      rw [hf₂, State.calling_eq h.top, State.setFrames_setFrames, State.pushFrame, State.frames_setTop _ hr', State.setTop_of_frames _ hr', State.setFrames_setFrames, hr]
      rfl
    have hsame : U.sameButNew ({ U with heap := s₂.heap, slotsUsed := s₂.slotsUsed } : State) L mc ms := by
      refine ⟨?_, q2, q3, q4, q5, q6⟩
      obtain ⟨t, ht, -⟩ := State.frames_cons hr
      show ({ U with heap := s₂.heap, slotsUsed := s₂.slotsUsed } : State) = { U.setFrames U.frames with heap := s₂.heap, slotsUsed := s₂.slotsUsed }
      rw [State.setFrames_self ht]
    subst hg
    refine Or.inr ⟨q, ⟨(({ U with heap := s₂.heap, slotsUsed := s₂.slotsUsed } : State).setVm s₂.vm), Ls ++ L, c0 + mc, s0 + ms⟩,
      ⟨X.admits, X.cas, X.clock, X.frames, X.room, X.hears, X.method, X.code, (X.here.setHeapUsed s₂.heap s₂.slotsUsed).setVm hW'.alike, X.tail, State.WarmedH.trans X.warmed hW', X.limits, X.bytes, X.same.trans (hsame.setVm s.vm)⟩,
      ⟨g, mk, s₂, L, E, ce, rfl, rfl, hx, hce, hcv, hcl, rfl, hL, rfl, rfl⟩, ?_⟩
    show Steps p.tables e below _ (((({ U with heap := s₂.heap, slotsUsed := s₂.slotsUsed } : State).setVm s₂.vm).setTop g).pushFrame (.throwing q))
    rw [← hs₂]
    exact hsteps
end Payer
section Calls
variable {p : Program} {l : Launch} {e : Env} {R : Room} {s : State} {m : MethodId} {args : Array Value} {below : List Frame} {meth : Method} {c : Code} {T : State} {locs : List Loc} {cells slots : Nat}
theorem vx_callV (X : Stand p l e R s m args below meth c T locs cells slots) (hexec : p.tables.exec = Jvm.exec) {own C : String} {index : Nat} {y : MethodName} {bytes : ByteArray} {maxL : Nat} {ret : Option FieldType}
    (hown : s.vm.findClass own = some m.cls) (hlink : (Cond.methodLink own index y).before args s = true) (hinst : (Cond.instanceMethod y).before args s = true) (hsel : (Cond.selects C y y).before args s = true)
    (hcode : (Cond.code y bytes maxL ret).before args s = true) (hy : y.cls ≠ "java/lang/invoke/MethodHandle" ∧ y.cls ≠ "java/lang/invoke/VarHandle")
    {W9 : Nat} {Pre : Pt → Array Value → Prop} {Post : Pt → Array Value → Option Value → Pt → Prop} {PostX : Pt → Array Value → Addr → Pt → Prop} (hK : vx_Back l R p e below s args y 3 W9 Pre Post PostX)
    {b : Addr} {cellB : Cell} (hcell : T.heap[b]? = some cellB) (hobj : cellB.vm.isStatics = false) (hcls : s.vm.findClass C = some cellB.cls)
    {g : JFrame} (hg : g.method = m) (hsize : g.locals.size = c.maxLocals) {argsL rest : List Value} (hlen : ∀ sig, parseMethodDescriptor y.desc = some sig → argsL.length = sig.parameters.length)
    (hstack : g.stack = argsL.reverse ++ .ref b :: rest) (hW : 2 * g.monitorRoom + (rest.map fun v => v.category).sum ≤ W9) (hdg : decode c.code g.pc = .ok (.invokevirtual index, 3))
    (hpre : ∀ vm₁, s.WarmedH vm₁ → Pre ⟨T.setVm vm₁, locs, cells, slots⟩ (Value.ref b :: argsL).toArray) :
    (∃ (v : Option Value) (vm₁ : Vm) (B : Pt), s.WarmedH vm₁ ∧ Stand p l e R s m args below meth c B.U B.locs B.cells B.slots ∧ Post ⟨T.setVm vm₁, locs, cells, slots⟩ (Value.ref b :: argsL).toArray v B ∧
      ∀ target, Steps p.tables e below (B.U.setTop { g with pc := g.pc + 3, stack := v.toList ++ rest }) target → Steps p.tables e below (T.setTop g) target) ∨
    (∃ (q : Addr) (vm₁ : Vm) (B : Pt), s.WarmedH vm₁ ∧ Stand p l e R s m args below meth c B.U B.locs B.cells B.slots ∧ PostX ⟨T.setVm vm₁, locs, cells, slots⟩ (Value.ref b :: argsL).toArray q B ∧
      Steps p.tables e below (T.setTop g) ((B.U.setTop { g with stack := rest }).pushFrame (.throwing q))) := by
  obtain ⟨mk, methM, hnamed, hmethM, hstM, habM⟩ := Cond.instanceMethod_spec hinst
  obtain ⟨methM', cM, hmethM', -, -, -, -, -, -, hsigM⟩ := Cond.code_spec hnamed hcode
  cases hmethM.symm.trans hmethM'
  obtain ⟨c2, r2, m2, q1, q2, q3, q4, kP, hkP, hkPi⟩ := Cond.selects_spec hsel
  cases hcls.symm.trans q1
  cases (State.methodFound?_of_named hnamed hy).symm.trans q2
  cases hnamed.symm.trans q3
  have hselP : selectMethod e.platform s.vm cellB.cls mk = .method mk := by rw [Launch.admits_selectMethod X.admits]; exact q4
  obtain ⟨vm₁, X₁, hstep₁⟩ := X.invokevirtual hexec hown hlink hnamed hmethM hstM hkP hkPi hy (a := b) (cell := cellB) hcell
    (fun z h => by rw [h] at hobj; cases hobj) hselP hmethM habM hkP hkPi (g := g) hg (argsL := argsL) (rest := rest) (hlen _ hsigM) hstack hdg
  rcases hK m meth c ⟨T.setVm vm₁, locs, cells, slots⟩ { g with stack := rest } (.invokevirtual index) mk (Value.ref b :: argsL).toArray X₁ hg hsize hdg hW (X₁.named hnamed) (hpre vm₁ X₁.warmed) with ⟨v, B, X', hpost, hsteps⟩ | ⟨q, B, X', hpost, hsteps⟩
  · exact Or.inl ⟨v, vm₁, B, X₁.warmed, X', hpost, fun target h => hstep₁ _ fun acts => by rw [doInvoke_state]; exact hsteps.trans h⟩
  · exact Or.inr ⟨q, vm₁, B, X₁.warmed, X', hpost, hstep₁ _ fun acts => by rw [doInvoke_state]; exact hsteps⟩
theorem vx_callS (X : Stand p l e R s m args below meth c T locs cells slots) (hexec : p.tables.exec = Jvm.exec) {own : String} {index : Nat} {y : MethodName} {bytes : ByteArray} {maxL : Nat} {ret : Option FieldType}
    (hown : s.vm.findClass own = some m.cls) (hlink : (Cond.methodLink own index y).before args s = true) (hstat : (Cond.static y).before args s = true) (hinit : (Cond.initialized y.cls).before args s = true)
    (hcode : (Cond.code y bytes maxL ret).before args s = true) (hy : y.cls ≠ "java/lang/invoke/MethodHandle" ∧ y.cls ≠ "java/lang/invoke/VarHandle")
    {W9 : Nat} {Pre : Pt → Array Value → Prop} {Post : Pt → Array Value → Option Value → Pt → Prop} {PostX : Pt → Array Value → Addr → Pt → Prop} (hK : vx_Back l R p e below s args y 3 W9 Pre Post PostX)
    {g : JFrame} (hg : g.method = m) (hsize : g.locals.size = c.maxLocals) {argsL rest : List Value} (hlen : ∀ sig, parseMethodDescriptor y.desc = some sig → argsL.length = sig.parameters.length)
    (hstack : g.stack = argsL.reverse ++ rest) (hW : 2 * g.monitorRoom + (rest.map fun v => v.category).sum ≤ W9) (hdg : decode c.code g.pc = .ok (.invokestatic index, 3))
    (hpre : ∀ vm₁, s.WarmedH vm₁ → Pre ⟨T.setVm vm₁, locs, cells, slots⟩ argsL.toArray) :
    (∃ (v : Option Value) (vm₁ : Vm) (B : Pt), s.WarmedH vm₁ ∧ Stand p l e R s m args below meth c B.U B.locs B.cells B.slots ∧ Post ⟨T.setVm vm₁, locs, cells, slots⟩ argsL.toArray v B ∧
      ∀ target, Steps p.tables e below (B.U.setTop { g with pc := g.pc + 3, stack := v.toList ++ rest }) target → Steps p.tables e below (T.setTop g) target) ∨
    (∃ (q : Addr) (vm₁ : Vm) (B : Pt), s.WarmedH vm₁ ∧ Stand p l e R s m args below meth c B.U B.locs B.cells B.slots ∧ PostX ⟨T.setVm vm₁, locs, cells, slots⟩ argsL.toArray q B ∧
      Steps p.tables e below (T.setTop g) ((B.U.setTop { g with stack := rest }).pushFrame (.throwing q))) := by
  obtain ⟨mk, hnamed⟩ := Cond.code_named hcode
  obtain ⟨methM, cM, hmethM, -, -, -, -, -, -, hsigM⟩ := Cond.code_spec hnamed hcode
  have hstatic : methM.isStatic = true := Cond.static_spec hnamed hmethM hstat
  obtain ⟨kP, hkP, -⟩ := className_of_methodNamed hnamed
  have hinitP : kP.init = .initialized := Cond.initialized_spec (findClass_of_methodNamed hnamed) hkP hinit
  obtain ⟨vm₁, X₁, hstep₁⟩ := X.invokestatic hexec hown hlink hnamed hmethM hstatic hkP hinitP hy (g := g) hg (argsL := argsL) (rest := rest) (hlen _ hsigM) hstack hdg
  rcases hK m meth c ⟨T.setVm vm₁, locs, cells, slots⟩ { g with stack := rest } (.invokestatic index) mk argsL.toArray X₁ hg hsize hdg hW (X₁.named hnamed) (hpre vm₁ X₁.warmed) with ⟨v, B, X', hpost, hsteps⟩ | ⟨q, B, X', hpost, hsteps⟩
  · exact Or.inl ⟨v, vm₁, B, X₁.warmed, X', hpost, fun target h => hstep₁ _ fun acts => by rw [doInvoke_state]; exact hsteps.trans h⟩
  · exact Or.inr ⟨q, vm₁, B, X₁.warmed, X', hpost, hstep₁ _ fun acts => by rw [doInvoke_state]; exact hsteps⟩
end Calls
theorem vx_cls {s : State} {T : State} {vm₁ : Vm} {E : String} {k : ClassId} (hW : s.WarmedH vm₁) (h : (T.setVm vm₁).vm.findClass E = some k) : s.vm.findClass E = some k := by
  have h1 : vm₁.findClass E = some k := h
  rw [hW.alike.findClass] at h1
  exact h1
/-- the method's frame g, with q thrown over it -/
def vx_W (p : Program) (l : Launch) (e : Env) (R : Room) (s : State) (m : MethodId) (args : Array Value) (below : List Frame) (meth : Method) (c : Code) (H : Heap) (locs : List Loc) (cells slots : Nat) (Q : State → Prop) (g : JFrame) (q : Addr) : Prop :=
  ∀ T : State, T.heap = H → Stand p l e R s m args below meth c T locs cells slots → ∃ t, Steps p.tables e below ((T.setTop g).pushFrame (.throwing q)) t ∧ Q t
def vx_Run (p : Program) (l : Launch) (e : Env) (R : Room) (s : State) (m : MethodId) (args : Array Value) (below : List Frame) (meth : Method) (c : Code) (H : Heap) (locs : List Loc) (cells slots mc ms : Nat) (g : JFrame) (rest : List Value) (Qa : State → Outcome → State → Prop) (XC : String → State → State → Prop) (free : Addr → Prop) : Prop :=
  ∀ T : State, T.heap = H → Stand p l e R s m args below meth c T locs cells slots →
    (∃ (v : Option Value) (st₀ t T' : State) (L : List Loc), st₀.heap = H ∧ Stand p l e R s m args below meth c T' (locs ++ L) (cells + mc) (slots + ms) ∧ (∀ q ∈ L, free q.base) ∧ T'.heap = t.heap ∧ T'.vm = t.vm ∧ Qa st₀ (.returned v) t ∧
      Goes p e below T g T' { g with pc := g.pc + 3, stack := v.toList ++ rest }) ∨
    (∃ (q : Addr) (st₀ t T' : State) (L : List Loc) (E : String) (ce : Cell), st₀.heap = H ∧ Stand p l e R s m args below meth c T' (locs ++ L) (cells + mc) (slots + ms) ∧ (∀ z ∈ L, free z.base) ∧ T'.heap = t.heap ∧ T'.vm = t.vm ∧ XC E st₀ t ∧ t.heap[q]? = some ce ∧ ce.vm = .none ∧ s.vm.findClass E = some ce.cls ∧
      Steps p.tables e below (T.setTop g) ((T'.setTop { g with stack := rest }).pushFrame (.throwing q)))
def vx_X {S : Type} (px : S → Prop) (B : String → S → State → Prop) (A : Nat → Prop) : String → State → State → Prop := fun E st t => ∃ u : S, px u ∧ B E u t ∧ va_F A st t
section Runs
variable {p : Program} {l : Launch} {e : Env} {R : Room} {s : State} {m : MethodId} {args : Array Value} {below : List Frame} {meth : Method} {c : Code} {H : Heap} {locs : List Loc} {cells slots : Nat}
variable {y : MethodName} {bytes cc : ByteArray} {maxL nL mc ms n index : Nat} {ret : Option FieldType} {ws : List Cond} {rm : Room} {Pc : Array Value → State → Prop} {Qc : Array Value → State → Outcome → State → Prop} {XC : String → State → State → Prop} {free : Addr → Prop} {Ts : List Cond} {own C : String} {b : Addr} {As rest : List Value} {g : JFrame}
theorem vx_callBack (cb : CallB R s args own index y bytes maxL ret ws rm mc ms n) (hM : vx_Met l y ws rm Pc Qc XC mc ms free) (hbl : FrameBlind Pc) : vx_Back l R p e below s args y 3 8 (PreOf R mc ms Pc) (PostOf Qc mc ms free) (vx_Post XC mc ms free) := by
  obtain ⟨hrc, hrs, hfr, hlo, hws, hcw, -, hini, -⟩ := cb
  exact vx_back (bytes := bytes) (maxL := maxL) (ret := ret) hM hbl hrc hrs hfr hlo hws hcw (fun a' U hW => word_at hW (Or.inl (by first | rfl | simp [Cond.onTables, Cond.keeps, Cond.steady])) hini)
theorem vx_runV (S : CallFix p m c cc nL s args Ts own) (hM : vx_Met l y ws rm Pc Qc XC mc ms free) (cw : CallW R s args own C index y bytes maxL ret ws rm mc ms n) (hp : PreV s H C b Pc As)
    (hg : g.method = m) (hn : As.length = n) (hsize : g.locals.size = nL) (hstack : g.stack = As.reverse ++ .ref b :: rest) (hW : 2 * g.monitorRoom + (rest.map fun v => v.category).sum ≤ 8) (hdg : decode cc g.pc = .ok (.invokevirtual index, 3)) (hf : cells + mc ≤ R.cells ∧ slots + ms ≤ R.slots) :
    vx_Run p l e R s m args below meth c H locs cells slots mc ms g rest (Qc (Value.ref b :: As).toArray) XC free := by
  have hK : vx_Back l R p e below s args y 3 8 (PreOf R mc ms Pc) (PostOf Qc mc ms free) (vx_Post XC mc ms free) := vx_callBack cw.1 hM hp.1
  obtain ⟨⟨-, -, -, -, -, -, hcode, -, hy, hlen, hl⟩, hin, hse⟩ := cw
  obtain ⟨hx, hb, hml, ho, -⟩ := S
  obtain ⟨-, ⟨cellB, hcB, hoB, hclB⟩, hPc⟩ := hp
  intro T hT X
  rcases vx_callV X hx (C := C) (bytes := bytes) (maxL := maxL) (ret := ret) ho hl hin hse hcode hy hK (by rw [hT]; exact hcB) hoB hclB hg (hsize.trans hml.symm) (argsL := As) (rest := rest) (fun sig h => hn.trans (hlen sig h)) hstack hW (by rw [hb]; exact hdg)
    (fun vm₁ hW₁ => ⟨hf.1, hf.2, hPc (T.setVm vm₁) hT hW₁⟩) with ⟨v, vm₁, ⟨U', l2, c2, s2⟩, hW₁, X', ⟨g', mk, t, L, e1, e2, hq, h1, hL, h2, h3⟩, st⟩ | ⟨q, vm₁, ⟨U', l2, c2, s2⟩, hW₁, X', ⟨g', mk, t, L, E, ce, e1, e2, hq, hce, hcv, hcl, h1, hL, h2, h3⟩, st⟩
  · dsimp only [Pt.U, Pt.locs, Pt.cells, Pt.slots] at X' e1 e2 h1 h2 h3 st
    subst h1; subst h2; subst h3
    exact Or.inl ⟨v, (T.setVm vm₁).calling g' mk (Value.ref b :: As).toArray, t, U', L, hT, X', hL, e1, e2, hq, st⟩
  · dsimp only [Pt.U, Pt.locs, Pt.cells, Pt.slots] at X' e1 e2 h1 h2 h3 st hcl
    subst h1; subst h2; subst h3
    exact Or.inr ⟨q, (T.setVm vm₁).calling g' mk (Value.ref b :: As).toArray, t, U', L, E, ce, hT, X', hL, e1, e2, hq, hce, hcv, vx_cls hW₁ hcl, st⟩
theorem vx_runS (S : CallFix p m c cc nL s args Ts own) (hM : vx_Met l y ws rm Pc Qc XC mc ms free) (cw : CallB R s args own index y bytes maxL ret ws rm mc ms n ∧ (Cond.static y).before args s = true) (hp : PreS s H Pc As)
    (hg : g.method = m) (hn : As.length = n) (hsize : g.locals.size = nL) (hstack : g.stack = As.reverse ++ rest) (hW : 2 * g.monitorRoom + (rest.map fun v => v.category).sum ≤ 8) (hdg : decode cc g.pc = .ok (.invokestatic index, 3)) (hf : cells + mc ≤ R.cells ∧ slots + ms ≤ R.slots) :
    vx_Run p l e R s m args below meth c H locs cells slots mc ms g rest (Qc As.toArray) XC free := by
  have hK : vx_Back l R p e below s args y 3 8 (PreOf R mc ms Pc) (PostOf Qc mc ms free) (vx_Post XC mc ms free) := vx_callBack cw.1 hM hp.1
  obtain ⟨⟨-, -, -, -, -, -, hcode, hini, hy, hlen, hl⟩, hstt⟩ := cw
  obtain ⟨hx, hb, hml, ho, -⟩ := S
  intro T hT X
  rcases vx_callS X hx (bytes := bytes) (maxL := maxL) (ret := ret) ho hl hstt hini hcode hy hK hg (hsize.trans hml.symm) (argsL := As) (rest := rest) (fun sig h => hn.trans (hlen sig h)) hstack hW (by rw [hb]; exact hdg)
    (fun vm₁ hW₁ => ⟨hf.1, hf.2, hp.2 (T.setVm vm₁) hT hW₁⟩) with ⟨v, vm₁, ⟨U', l2, c2, s2⟩, hW₁, X', ⟨g', mk, t, L, e1, e2, hq, h1, hL, h2, h3⟩, st⟩ | ⟨q, vm₁, ⟨U', l2, c2, s2⟩, hW₁, X', ⟨g', mk, t, L, E, ce, e1, e2, hq, hce, hcv, hcl, h1, hL, h2, h3⟩, st⟩
  · dsimp only [Pt.U, Pt.locs, Pt.cells, Pt.slots] at X' e1 e2 h1 h2 h3 st
    subst h1; subst h2; subst h3
    exact Or.inl ⟨v, (T.setVm vm₁).calling g' mk As.toArray, t, U', L, hT, X', hL, e1, e2, hq, st⟩
  · dsimp only [Pt.U, Pt.locs, Pt.cells, Pt.slots] at X' e1 e2 h1 h2 h3 st hcl
    subst h1; subst h2; subst h3
    exact Or.inr ⟨q, (T.setVm vm₁).calling g' mk As.toArray, t, U', L, E, ce, hT, X', hL, e1, e2, hq, hce, hcv, vx_cls hW₁ hcl, st⟩
end Runs
section Rows
variable {p : Program} {l : Launch} {e : Env} {R : Room} {s : State} {m : MethodId} {args : Array Value} {below : List Frame} {meth : Method} {c : Code} {H : Heap} {locs : List Loc} {cells slots : Nat} {Q : State → Prop}
variable {mc ms : Nat} {free : Addr → Prop} {A0 A1 : Nat → Prop} {H0 : Heap} {a : Array Value} {pc : Nat} {ls : Array Slot} {st0 rest : List Value}
theorem vx_keep {st₀ t T' : State} {L : List Loc} (h0 : st₀.heap = H) (e1 : T'.heap = t.heap) (hS : va_S A0 H0 H locs) (hA : ∀ q, q < H.size → A1 q → A0 q) (hf : ∀ q, free q → A0 q) (hL : ∀ q ∈ L, free q.base) (hF : va_F A1 st₀ t) :
    H.size ≤ T'.heap.size ∧ (∀ q : Nat, q < H.size → ¬ A1 q → T'.heap[q]? = H[q]?) ∧ va_S A0 H0 T'.heap (locs ++ L) := by
  obtain ⟨hz, hk⟩ := hF
  rw [h0] at hz hk
  exact ⟨by rw [e1]; exact hz, fun q h1 h2 => by rw [e1]; exact hk q h1 h2,
    ⟨Nat.le_trans hS.1 (by rw [e1]; exact hz), fun q h1 h2 => by rw [e1, hk q (Nat.lt_of_lt_of_le h1 hS.1) (fun z => h2 (hA q (Nat.lt_of_lt_of_le h1 hS.1) z))]; exact hS.2.1 q h1 h2, fun q hq => by
      rcases List.mem_append.mp hq with h | h
      · exact hS.2.2 q h
      · exact hf _ (hL q h)⟩⟩
theorem vx_calli {S SX : Type} {post : Int32 → S → Prop} {px : SX → Prop} {B : S → State → Prop} {BX : String → SX → State → Prop} {AX : Nat → Prop} (hr : vx_Run p l e R s m args below meth c H locs cells slots mc ms (F0 m pc ls st0) rest (va_Qi post B A1 a) (vx_X px BX AX) free) (hS : va_S A0 H0 H locs) (hA : ∀ q, q < H.size → A1 q → A0 q) (hf : ∀ q, free q → A0 q) (hAX : ∀ q, q < H.size → AX q → A0 q)
    (kx : ∀ (E : String) (ce : Cell) (q9 : Addr) (u : SX) (t : State) (H1 : Heap) (locs1 : List Loc), t.heap = H1 → s.vm.Alike t.vm → px u → BX E u t → H.size ≤ H1.size → (∀ q : Nat, q < H.size → ¬ AX q → H1[q]? = H[q]?) → va_S A0 H0 H1 locs1 → H1[q9]? = some ce → ce.vm = .none → s.vm.findClass E = some ce.cls → vx_W p l e R s m args below meth c H1 locs1 (cells + mc) (slots + ms) Q (F0 m pc ls rest) q9)
    (kk : ∀ (r : Int32) (u : S) (t : State) (H1 : Heap) (locs1 : List Loc), t.heap = H1 → s.vm.Alike t.vm → post r u → B u t → H.size ≤ H1.size → (∀ q : Nat, q < H.size → ¬ A1 q → H1[q]? = H[q]?) → va_S A0 H0 H1 locs1 → W p l e R s m args below meth c H1 locs1 (cells + mc) (slots + ms) Q (F0 m (pc + 3) ls (.int r :: rest))) : W p l e R s m args below meth c H locs cells slots Q (F0 m pc ls st0) := by
  intro T hT X
  rcases hr T hT X with ⟨v, st₀, t, T', L, h0, X', hL, e1, e2, ⟨⟨r, u, hv, hp, hb⟩, hF⟩, st⟩ | ⟨q, st₀, t, T', L, E, ce, h0, X', hL, e1, e2, ⟨u, hp, hb, hF⟩, hce, hcv, hcl, st⟩
  · cases hv
    obtain ⟨k1, k2, k3⟩ := vx_keep h0 e1 hS hA hf hL hF
    obtain ⟨t2, a1, b1⟩ := kk r u t T'.heap (locs ++ L) e1.symm (by rw [← e2]; exact X'.warmed.alike) hp hb k1 k2 k3 T' rfl X'
    exact ⟨t2, st t2 a1, b1⟩
  · obtain ⟨k1, k2, k3⟩ := vx_keep h0 e1 hS hAX hf hL hF
    obtain ⟨t2, a1, b1⟩ := kx E ce q u t T'.heap (locs ++ L) e1.symm (by rw [← e2]; exact X'.warmed.alike) hp hb k1 k2 k3 (by rw [e1]; exact hce) hcv hcl T' rfl X'
    exact ⟨t2, st.trans a1, b1⟩
theorem vx_calll {S SX : Type} {post : Int64 → S → Prop} {px : SX → Prop} {B : S → State → Prop} {BX : String → SX → State → Prop} {AX : Nat → Prop} (hr : vx_Run p l e R s m args below meth c H locs cells slots mc ms (F0 m pc ls st0) rest (va_Ql post B A1 a) (vx_X px BX AX) free) (hS : va_S A0 H0 H locs) (hA : ∀ q, q < H.size → A1 q → A0 q) (hf : ∀ q, free q → A0 q) (hAX : ∀ q, q < H.size → AX q → A0 q)
    (kx : ∀ (E : String) (ce : Cell) (q9 : Addr) (u : SX) (t : State) (H1 : Heap) (locs1 : List Loc), t.heap = H1 → s.vm.Alike t.vm → px u → BX E u t → H.size ≤ H1.size → (∀ q : Nat, q < H.size → ¬ AX q → H1[q]? = H[q]?) → va_S A0 H0 H1 locs1 → H1[q9]? = some ce → ce.vm = .none → s.vm.findClass E = some ce.cls → vx_W p l e R s m args below meth c H1 locs1 (cells + mc) (slots + ms) Q (F0 m pc ls rest) q9)
    (kk : ∀ (r : Int64) (u : S) (t : State) (H1 : Heap) (locs1 : List Loc), t.heap = H1 → s.vm.Alike t.vm → post r u → B u t → H.size ≤ H1.size → (∀ q : Nat, q < H.size → ¬ A1 q → H1[q]? = H[q]?) → va_S A0 H0 H1 locs1 → W p l e R s m args below meth c H1 locs1 (cells + mc) (slots + ms) Q (F0 m (pc + 3) ls (.long r :: rest))) : W p l e R s m args below meth c H locs cells slots Q (F0 m pc ls st0) := by
  intro T hT X
  rcases hr T hT X with ⟨v, st₀, t, T', L, h0, X', hL, e1, e2, ⟨⟨r, u, hv, hp, hb⟩, hF⟩, st⟩ | ⟨q, st₀, t, T', L, E, ce, h0, X', hL, e1, e2, ⟨u, hp, hb, hF⟩, hce, hcv, hcl, st⟩
  · cases hv
    obtain ⟨k1, k2, k3⟩ := vx_keep h0 e1 hS hA hf hL hF
    obtain ⟨t2, a1, b1⟩ := kk r u t T'.heap (locs ++ L) e1.symm (by rw [← e2]; exact X'.warmed.alike) hp hb k1 k2 k3 T' rfl X'
    exact ⟨t2, st t2 a1, b1⟩
  · obtain ⟨k1, k2, k3⟩ := vx_keep h0 e1 hS hAX hf hL hF
    obtain ⟨t2, a1, b1⟩ := kx E ce q u t T'.heap (locs ++ L) e1.symm (by rw [← e2]; exact X'.warmed.alike) hp hb k1 k2 k3 (by rw [e1]; exact hce) hcv hcl T' rfl X'
    exact ⟨t2, st.trans a1, b1⟩
theorem vx_callf {S SX : Type} {post : UInt32 → S → Prop} {px : SX → Prop} {B : S → State → Prop} {BX : String → SX → State → Prop} {AX : Nat → Prop} (hr : vx_Run p l e R s m args below meth c H locs cells slots mc ms (F0 m pc ls st0) rest (va_Qf post B A1 a) (vx_X px BX AX) free) (hS : va_S A0 H0 H locs) (hA : ∀ q, q < H.size → A1 q → A0 q) (hf : ∀ q, free q → A0 q) (hAX : ∀ q, q < H.size → AX q → A0 q)
    (kx : ∀ (E : String) (ce : Cell) (q9 : Addr) (u : SX) (t : State) (H1 : Heap) (locs1 : List Loc), t.heap = H1 → s.vm.Alike t.vm → px u → BX E u t → H.size ≤ H1.size → (∀ q : Nat, q < H.size → ¬ AX q → H1[q]? = H[q]?) → va_S A0 H0 H1 locs1 → H1[q9]? = some ce → ce.vm = .none → s.vm.findClass E = some ce.cls → vx_W p l e R s m args below meth c H1 locs1 (cells + mc) (slots + ms) Q (F0 m pc ls rest) q9)
    (kk : ∀ (r : UInt32) (u : S) (t : State) (H1 : Heap) (locs1 : List Loc), t.heap = H1 → s.vm.Alike t.vm → post r u → B u t → H.size ≤ H1.size → (∀ q : Nat, q < H.size → ¬ A1 q → H1[q]? = H[q]?) → va_S A0 H0 H1 locs1 → W p l e R s m args below meth c H1 locs1 (cells + mc) (slots + ms) Q (F0 m (pc + 3) ls (.float r :: rest))) : W p l e R s m args below meth c H locs cells slots Q (F0 m pc ls st0) := by
  intro T hT X
  rcases hr T hT X with ⟨v, st₀, t, T', L, h0, X', hL, e1, e2, ⟨⟨r, u, hv, hp, hb⟩, hF⟩, st⟩ | ⟨q, st₀, t, T', L, E, ce, h0, X', hL, e1, e2, ⟨u, hp, hb, hF⟩, hce, hcv, hcl, st⟩
  · cases hv
    obtain ⟨k1, k2, k3⟩ := vx_keep h0 e1 hS hA hf hL hF
    obtain ⟨t2, a1, b1⟩ := kk r u t T'.heap (locs ++ L) e1.symm (by rw [← e2]; exact X'.warmed.alike) hp hb k1 k2 k3 T' rfl X'
    exact ⟨t2, st t2 a1, b1⟩
  · obtain ⟨k1, k2, k3⟩ := vx_keep h0 e1 hS hAX hf hL hF
    obtain ⟨t2, a1, b1⟩ := kx E ce q u t T'.heap (locs ++ L) e1.symm (by rw [← e2]; exact X'.warmed.alike) hp hb k1 k2 k3 (by rw [e1]; exact hce) hcv hcl T' rfl X'
    exact ⟨t2, st.trans a1, b1⟩
theorem vx_calld {S SX : Type} {post : UInt64 → S → Prop} {px : SX → Prop} {B : S → State → Prop} {BX : String → SX → State → Prop} {AX : Nat → Prop} (hr : vx_Run p l e R s m args below meth c H locs cells slots mc ms (F0 m pc ls st0) rest (va_Qd post B A1 a) (vx_X px BX AX) free) (hS : va_S A0 H0 H locs) (hA : ∀ q, q < H.size → A1 q → A0 q) (hf : ∀ q, free q → A0 q) (hAX : ∀ q, q < H.size → AX q → A0 q)
    (kx : ∀ (E : String) (ce : Cell) (q9 : Addr) (u : SX) (t : State) (H1 : Heap) (locs1 : List Loc), t.heap = H1 → s.vm.Alike t.vm → px u → BX E u t → H.size ≤ H1.size → (∀ q : Nat, q < H.size → ¬ AX q → H1[q]? = H[q]?) → va_S A0 H0 H1 locs1 → H1[q9]? = some ce → ce.vm = .none → s.vm.findClass E = some ce.cls → vx_W p l e R s m args below meth c H1 locs1 (cells + mc) (slots + ms) Q (F0 m pc ls rest) q9)
    (kk : ∀ (r : UInt64) (u : S) (t : State) (H1 : Heap) (locs1 : List Loc), t.heap = H1 → s.vm.Alike t.vm → post r u → B u t → H.size ≤ H1.size → (∀ q : Nat, q < H.size → ¬ A1 q → H1[q]? = H[q]?) → va_S A0 H0 H1 locs1 → W p l e R s m args below meth c H1 locs1 (cells + mc) (slots + ms) Q (F0 m (pc + 3) ls (.double r :: rest))) : W p l e R s m args below meth c H locs cells slots Q (F0 m pc ls st0) := by
  intro T hT X
  rcases hr T hT X with ⟨v, st₀, t, T', L, h0, X', hL, e1, e2, ⟨⟨r, u, hv, hp, hb⟩, hF⟩, st⟩ | ⟨q, st₀, t, T', L, E, ce, h0, X', hL, e1, e2, ⟨u, hp, hb, hF⟩, hce, hcv, hcl, st⟩
  · cases hv
    obtain ⟨k1, k2, k3⟩ := vx_keep h0 e1 hS hA hf hL hF
    obtain ⟨t2, a1, b1⟩ := kk r u t T'.heap (locs ++ L) e1.symm (by rw [← e2]; exact X'.warmed.alike) hp hb k1 k2 k3 T' rfl X'
    exact ⟨t2, st t2 a1, b1⟩
  · obtain ⟨k1, k2, k3⟩ := vx_keep h0 e1 hS hAX hf hL hF
    obtain ⟨t2, a1, b1⟩ := kx E ce q u t T'.heap (locs ++ L) e1.symm (by rw [← e2]; exact X'.warmed.alike) hp hb k1 k2 k3 (by rw [e1]; exact hce) hcv hcl T' rfl X'
    exact ⟨t2, st.trans a1, b1⟩
theorem vx_callv {S SX : Type} {post : S → Prop} {px : SX → Prop} {B : S → State → Prop} {BX : String → SX → State → Prop} {AX : Nat → Prop} (hr : vx_Run p l e R s m args below meth c H locs cells slots mc ms (F0 m pc ls st0) rest (va_Qv post B A1 a) (vx_X px BX AX) free) (hS : va_S A0 H0 H locs) (hA : ∀ q, q < H.size → A1 q → A0 q) (hf : ∀ q, free q → A0 q) (hAX : ∀ q, q < H.size → AX q → A0 q)
    (kx : ∀ (E : String) (ce : Cell) (q9 : Addr) (u : SX) (t : State) (H1 : Heap) (locs1 : List Loc), t.heap = H1 → s.vm.Alike t.vm → px u → BX E u t → H.size ≤ H1.size → (∀ q : Nat, q < H.size → ¬ AX q → H1[q]? = H[q]?) → va_S A0 H0 H1 locs1 → H1[q9]? = some ce → ce.vm = .none → s.vm.findClass E = some ce.cls → vx_W p l e R s m args below meth c H1 locs1 (cells + mc) (slots + ms) Q (F0 m pc ls rest) q9)
    (kk : ∀ (u : S) (t : State) (H1 : Heap) (locs1 : List Loc), t.heap = H1 → s.vm.Alike t.vm → post u → B u t → H.size ≤ H1.size → (∀ q : Nat, q < H.size → ¬ A1 q → H1[q]? = H[q]?) → va_S A0 H0 H1 locs1 → W p l e R s m args below meth c H1 locs1 (cells + mc) (slots + ms) Q (F0 m (pc + 3) ls (rest))) : W p l e R s m args below meth c H locs cells slots Q (F0 m pc ls st0) := by
  intro T hT X
  rcases hr T hT X with ⟨v, st₀, t, T', L, h0, X', hL, e1, e2, ⟨⟨u, hv, hp, hb⟩, hF⟩, st⟩ | ⟨q, st₀, t, T', L, E, ce, h0, X', hL, e1, e2, ⟨u, hp, hb, hF⟩, hce, hcv, hcl, st⟩
  · cases hv
    obtain ⟨k1, k2, k3⟩ := vx_keep h0 e1 hS hA hf hL hF
    obtain ⟨t2, a1, b1⟩ := kk u t T'.heap (locs ++ L) e1.symm (by rw [← e2]; exact X'.warmed.alike) hp hb k1 k2 k3 T' rfl X'
    exact ⟨t2, st t2 a1, b1⟩
  · obtain ⟨k1, k2, k3⟩ := vx_keep h0 e1 hS hAX hf hL hF
    obtain ⟨t2, a1, b1⟩ := kx E ce q u t T'.heap (locs ++ L) e1.symm (by rw [← e2]; exact X'.warmed.alike) hp hb k1 k2 k3 (by rw [e1]; exact hce) hcv hcl T' rfl X'
    exact ⟨t2, st.trans a1, b1⟩
end Rows
section Ends
variable {p : Program} {l : Launch} {e : Env} {R : Room} {s : State} {m : MethodId} {args : Array Value} {below : List Frame} {meth : Method} {c : Code} {H : Heap} {locs : List Loc} {cells slots : Nat} {Q : State → Prop}
variable {mc ms : Nat} {free : Addr → Prop} {A0 A1 : Nat → Prop} {H0 : Heap} {a : Array Value} {ls : Array Slot} {st0 rest : List Value}
variable {Qc : Array Value → State → Outcome → State → Prop} {XC : String → State → State → Prop}
/-- what a body that may throw owes at its end -/
def vx_MQ (below : List Frame) (Qc : Array Value → State → Outcome → State → Prop) (XC : String → State → State → Prop) (a : Array Value) (s : State) (mc ms : Nat) (free : Addr → Prop) : State → Prop := fun t =>
  ∃ o, t.status = .running ∧ Ended t below o ∧ vx_Q Qc XC mc ms free a s o t
theorem vx_ret {g : JFrame} {mc ms : Nat} (k : W p l e R s m args below meth c H locs cells slots (MQ below Qc args s mc ms free) g) : W p l e R s m args below meth c H locs cells slots (vx_MQ below Qc XC args s mc ms free) g := by
  intro T hT X
  obtain ⟨t, a1, o, b1, b2, b3, b4⟩ := k T hT X
  exact ⟨t, a1, o, b1, b2, Or.inl ⟨b3, b4⟩⟩
/-- not caught here: it goes on to the caller -/
theorem vx_widen {g : JFrame} {q : Addr} {k n : Nat} (h1 : cells ≤ k) (h2 : slots ≤ n) (kk : vx_W p l e R s m args below meth c H locs k n Q g q) : vx_W p l e R s m args below meth c H locs cells slots Q g q := fun T hT X => kk T hT (stand_widen X h1 h2)
theorem vx_out {pc : Nat} {E : String} {ce : Cell} {q : Addr} {mc ms : Nat} (hout : ∀ x ∈ c.exceptionTable.toList, covers x pc = false) (hlocks : meth.locks = false) (hcell : H[q]? = some ce) (hv : ce.vm = .none) (hcl : s.vm.findClass E = some ce.cls)
    (hx : ∀ t : State, t.heap = H → s.vm.Alike t.vm → XC E s t) (hf : ∀ z ∈ locs, free z.base) (hc : cells ≤ mc) (hs : slots ≤ ms) :
    vx_W p l e R s m args below meth c H locs cells slots (vx_MQ below Qc XC args s mc ms free) (F0 m pc ls rest) q := by
  intro T hT X
  obtain ⟨st1, hrun, hend, hW, hsm⟩ := X.leaveThrown q (g := F0 m pc ls rest) rfl rfl rfl hout hlocks
  have hcell9 : (T.setFrames (.throwing q :: below)).heap[q]? = some ce := by
    show T.heap[q]? = some ce
    rw [hT]; exact hcell
  exact ⟨_, st1, .threw q, hrun, hend, Or.inr ⟨q, rfl, E, ce, locs, hx _ hT hW.alike, hcell9, hv, hcl, hW, hsm.mono hc hs, hf⟩⟩
theorem vx_frame {U : State} {k n : Nat} (h : s.sameButNew ({ U with vm := s.vm } : State) locs k n) : s.heap.size ≤ U.heap.size ∧ ∀ q : Nat, q < s.heap.size → (∀ z ∈ locs, z.base ≠ q) → U.heap[q]? = s.heap[q]? := by
  obtain ⟨-, h2, -, -, -, h6⟩ := h
  refine ⟨h2, fun q hq hz => ?_⟩
  obtain ⟨c9, e1, e2, e3, e4⟩ := h6 q _ (Array.getElem?_eq_getElem hq)
  have hs : c9.slots = (s.heap[q]).slots := Array.ext_getElem? fun i => e4 i fun hm => hz _ hm rfl
  have h9 : c9 = s.heap[q] := by
    rw [hs] at e2
    exact e2
  have e5 : U.heap[q]? = some c9 := e1
  rw [e5, h9, Array.getElem?_eq_getElem hq]
/-- the words of a throw but the four that speak of the heap -/
def vx_no (w : Cond) : Bool := decide (w ≠ .isRef (.static Bundle.tN "UNASSIGNED_STACK" Bundle.steD)) && decide (w ≠ .isRef (.static Bundle.tN "SUPPRESSED_SENTINEL" Bundle.listD)) && decide (w ≠ .laysStatic Bundle.tN "UNASSIGNED_STACK" Bundle.steD) && decide (w ≠ .laysStatic Bundle.tN "SUPPRESSED_SENTINEL" Bundle.listD)
def vx_at0 (own : String) (ic : Nat) (X : String) (names : List String) : List Cond := (Bundle.ownAtoms0 own ic X names).filter vx_no
def vx_atS (own : String) (ic : Nat) (X : String) (names : List String) : List Cond := (Bundle.ownAtoms own ic X names).filter vx_no
/-- a word that the tables alone decide, or a good one -/
def vx_ot (w : Cond) : Bool := w.onTables || goodWord w
theorem vx_ot_at {args a' : Array Value} {s U : State} {w : Cond} (hW : s.WarmedH U.vm) (hvm : s.vm = U.vm) (hg : vx_ot w = true) (h : w.before args s = true) : w.before a' U = true := by
  simp only [vx_ot, Bool.or_eq_true] at hg
  rcases hg with hg | hg
  · exact va_tabs hg hvm h
  · exact word_at hW (good_of_word hg) h
/-- a list's words: the good ones out of the method's own list, the others by premises of their own -/
theorem vx_hat {args : Array Value} {s : State} {L B : List Cond} (h1 : ∀ w ∈ L.filter goodWord, w.before args s = true) (h2 : ∀ w ∈ L.filter (fun w => !goodWord w), w ∈ B) (h3 : ∀ w ∈ B, w.before args s = true) : ∀ w ∈ L, w.before args s = true := by
  intro w hw
  by_cases g : goodWord w = true
  · exact h1 w (List.mem_filter.mpr ⟨hw, g⟩)
  · refine h3 w (h2 w (List.mem_filter.mpr ⟨hw, ?_⟩))
    show (!goodWord w) = true
    cases hgw : goodWord w
    · rfl
    · exact absurd hgw g
theorem vx_c {args : Array Value} {s : State} {w : Cond} {B : List Cond} (h : w.before args s = true) (t : ∀ w ∈ B, w.before args s = true) : ∀ w' ∈ w :: B, w'.before args s = true := fun w' h' => (List.mem_cons.mp h').elim (fun e => by rw [e]; exact h) (t w')
theorem vx_n {args : Array Value} {s : State} : ∀ w ∈ ([] : List Cond), w.before args s = true := fun _ h => nomatch h
theorem vx_own {args : Array Value} {s : State} {L : List Cond} (h1 : ∀ w ∈ L.filter vx_no, w.before args s = true)
    (hU : (Cond.isRef (.static Bundle.tN "UNASSIGNED_STACK" Bundle.steD)).before args s = true) (hN : (Cond.isRef (.static Bundle.tN "SUPPRESSED_SENTINEL" Bundle.listD)).before args s = true)
    (lU : (Cond.laysStatic Bundle.tN "UNASSIGNED_STACK" Bundle.steD).before args s = true) (lN : (Cond.laysStatic Bundle.tN "SUPPRESSED_SENTINEL" Bundle.listD).before args s = true) : ∀ w ∈ L, w.before args s = true := by
  intro w hw
  by_cases e1 : w = .isRef (.static Bundle.tN "UNASSIGNED_STACK" Bundle.steD)
  · rw [e1]; exact hU
  · by_cases e2 : w = .isRef (.static Bundle.tN "SUPPRESSED_SENTINEL" Bundle.listD)
    · rw [e2]; exact hN
    · by_cases e3 : w = .laysStatic Bundle.tN "UNASSIGNED_STACK" Bundle.steD
      · rw [e3]; exact lU
      · by_cases e4 : w = .laysStatic Bundle.tN "SUPPRESSED_SENTINEL" Bundle.listD
        · rw [e4]; exact lN
        · exact h1 w (List.mem_filter.mpr ⟨hw, by unfold vx_no; rw [decide_eq_true e1, decide_eq_true e2, decide_eq_true e3, decide_eq_true e4]; rfl⟩)
/-- where a static field lies, its class's statics cell in H -/
def vx_L (C n d : String) (A : Nat → Prop) (U : State) (H : Heap) : Prop := ∃ (c : ClassId) (k : Class) (i : Nat) (f : Field) (a : Nat) (cell : Cell), U.vm.findClass C = some c ∧ U.fieldFound? C n d = some (c, k, i, f) ∧ f.isStatic = true ∧ k.statics = some a ∧ H[a]? = some cell ∧ cell.vm.isStatics = true ∧ cell.cls = c ∧ f.slot < cell.slots.size ∧ k.staticTypes[f.slot]? = some f.type ∧ ¬ A a
theorem vx_L.moved {C n d : String} {A : Nat → Prop} {u U : State} {H : Heap} (hvm : u.vm.Alike U.vm) (h : vx_L C n d A u H) : vx_L C n d A U H := by
  obtain ⟨c, k, i, f, a, cell, h1, h2, h3, h4, h5, h6, h7, h8, h9, h10⟩ := h
  obtain ⟨k', hi', he⟩ := State.fieldFound?_setVm hvm h2
  exact ⟨c, k', i, f, a, cell, by rw [hvm.findClass]; exact h1, hi', h3, by rw [he]; exact h4, h5, h6, h7, h8, by rw [he]; exact h9, h10⟩
theorem vx_L.kept {C n d : String} {A : Nat → Prop} {U : State} {H H1 : Heap} (h : vx_L C n d A U H) (hq : ∀ a : Nat, a < H.size → ¬ A a → H1[a]? = H[a]?) : vx_L C n d A U H1 := by
  obtain ⟨c, k, i, f, a, cell, h1, h2, h3, h4, h5, h6, h7, h8, h9, h10⟩ := h
  exact ⟨c, k, i, f, a, cell, h1, h2, h3, h4, by rw [hq a (Array.getElem?_eq_some_iff.mp h5).1 h10]; exact h5, h6, h7, h8, h9, h10⟩
theorem vx_L.narrow {C n d : String} {A B : Nat → Prop} {U : State} {H : Heap} (h : vx_L C n d A U H) (hAB : ∀ q, B q → A q) : vx_L C n d B U H := by
  obtain ⟨c, k, i, f, a, cell, h1, h2, h3, h4, h5, h6, h7, h8, h9, h10⟩ := h
  exact ⟨c, k, i, f, a, cell, h1, h2, h3, h4, h5, h6, h7, h8, h9, fun z => h10 (hAB _ z)⟩
theorem vx_L.word {C n d : String} {A : Nat → Prop} {s : State} {args : Array Value} (h : vx_L C n d A s s.heap) : (Cond.laysStatic C n d).before args s = true := by
  obtain ⟨c, k, i, f, a, cell, h1, h2, h3, h4, h5, h6, h7, h8, h9, -⟩ := h
  show (Cond.laysStatic C n d).holds args s none s [] = true
  exact Cond.laysStatic_of h1 h2 h3 h4 h5 h6 h7 h8 h9
/-- .. and what it holds: null or some reference -/
def vx_Zq (C n d : String) (A : Nat → Prop) (U : State) (H : Heap) : Prop := va_Zq C n d A U H ∧ vx_L C n d A U H
theorem vx_Zq.moved {C n d : String} {A : Nat → Prop} {u U : State} {H : Heap} (hvm : u.vm.Alike U.vm) (h : vx_Zq C n d A u H) : vx_Zq C n d A U H := ⟨va_Zq.moved hvm h.1, vx_L.moved hvm h.2⟩
theorem vx_Zq.kept {C n d : String} {A : Nat → Prop} {U : State} {H H1 : Heap} (h : vx_Zq C n d A U H) (hq : ∀ a : Nat, a < H.size → ¬ A a → H1[a]? = H[a]?) : vx_Zq C n d A U H1 := ⟨va_Zq.kept h.1 hq, vx_L.kept h.2 hq⟩
theorem vx_Zq.narrow {C n d : String} {A B : Nat → Prop} {U : State} {H : Heap} (h : vx_Zq C n d A U H) (hAB : ∀ q, B q → A q) : vx_Zq C n d B U H := ⟨va_Zq.narrow h.1 hAB, vx_L.narrow h.2 hAB⟩
theorem vx_Zqof {args : Array Value} {s : State} {C n d : String} {A : Nat → Prop} (hl : (Cond.laysStatic C n d).before args s = true) (hini : (Cond.initialized C).before args s = true) (h : (Cond.isRef (.static C n d)).before args s = true) (hA : ∀ a : Nat, a < s.heap.size → ¬ A a) : vx_Zq C n d A s s.heap := by
  refine ⟨va_Zqof hl hini h hA, ?_⟩
  obtain ⟨c, k, i, f, a, cell, h1, h2, h3, h4, h5, h6, h7, h8, h9⟩ := Cond.laysStatic_spec hl
  exact ⟨c, k, i, f, a, cell, h1, h2, h3, h4, h5, h6, h7, h8, h9, hA a (Array.getElem?_eq_some_iff.mp h5).1⟩
theorem vx_isRef {C n d : String} {v : Value} {A : Nat → Prop} {s : State} {args : Array Value} (h : va_Z C n d v A s s.heap) (hv : v.isRef = true) : (Cond.isRef (.static C n d)).before args s = true := by
  obtain ⟨cf, kf, fi, f, a, cell, h1, h2, h3, h4, h5, h6, h7, -⟩ := h
  have he : (Term.static C n d).eval args s none [] s = some v := by
    simp [Term.eval, State.fieldNamed?, h1, h2, h4, h5, h6, h7]
  simp only [Cond.before, Cond.holds, Cond.value, he]
  cases v <;> simp_all [Value.isRef]
theorem vx_isRefq {C n d : String} {A : Nat → Prop} {s : State} {args : Array Value} (h : va_Zq C n d A s s.heap) : (Cond.isRef (.static C n d)).before args s = true := by
  rcases h with h | ⟨t, h⟩
  · exact vx_isRef h rfl
  · exact vx_isRef h rfl
/-- the same frame, seen from here: as if the method were called anew in this heap -/
theorem vx_rebase {T : State} (X : Stand p l e R s m args below meth c T locs cells slots) {R' : Room} (hf : R'.frames ≤ R.frames) (hl : R'.locals ≤ R.locals) (hc : cells + R'.cells ≤ R.cells) (hs : slots + R'.slots ≤ R.slots) :
    Stand p l e R' ((T.setVm s.vm).setFrames (.invoking m args :: below)) m args below meth c T [] 0 0 := by
  have htop : (T.setVm s.vm).topJava?.isSome := X.here.top
  have hF : ((T.setVm s.vm).setFrames (.invoking m args :: below)).frames = .invoking m args :: below := State.frames_setFrames _ (State.cur_lt_of_top htop)
  obtain ⟨g₀, hg0⟩ := Option.isSome_iff_exists.mp htop
  obtain ⟨r, hr⟩ := State.topJava?_eq_some.mp hg0
  have hl9 : e.platform.stackLimits (T.setVm s.vm).me = e.platform.stackLimits s.me := X.limits
  have hb9 : (T.setVm s.vm).me.stackBytes = s.me.stackBytes := X.bytes
  refine ⟨X.admits, X.cas, X.clock, hF, ?_, X.hears, X.method, X.code, X.here, X.tail, X.warmed, ?_, ?_, ?_⟩
  · have h := X.room
    have hU : ((T.setVm s.vm).setFrames (.invoking m args :: below)).localsInUse = s.localsInUse := by
      rw [State.localsInUse_invoking hF (meth := meth) (c := c) X.method X.code, State.localsInUse_invoking X.frames X.method X.code]
    simp only [State.hasRoom, Bool.and_eq_true, decide_eq_true_eq] at h ⊢
    obtain ⟨⟨⟨⟨h1, h2, h3, h4, h5, h6⟩, h7⟩, h8⟩, h9⟩ := h
    rw [X.frames, List.length_cons] at h2 h3
    have q1 := X.heapSize
    have q2 := X.used
    simp only [hF, hU, List.length_cons, State.stackLimits_setFrames, State.stackBytes_setFrames, hl9, hb9]
    refine ⟨⟨⟨⟨by omega, by omega, by omega, by omega, by omega, h6⟩, ?_⟩, ?_⟩, X.book⟩
    · show T.heap.size + R'.cells ≤ e.platform.maxCells
      omega
    · show T.slotsUsed + R'.slots ≤ e.platform.maxSlots
      omega
  · rw [State.stackLimits_setFrames]; rfl
  · rw [State.stackBytes_setFrames]; rfl
  · refine ⟨?_, Nat.le_refl _, Nat.le_refl _, ?_, ?_, fun a c9 h9 => ⟨c9, h9, rfl, rfl, fun _ _ => rfl⟩⟩
    · obtain ⟨t, ht, -⟩ := State.frames_cons hr
      show T.setVm s.vm = { ((T.setVm s.vm).setFrames (.invoking m args :: below)).setFrames (T.setVm s.vm).frames with heap := T.heap, slotsUsed := T.slotsUsed }
      rw [State.setFrames_setFrames, State.setFrames_self ht]
      rfl
    · show T.slotsUsed = T.slotsUsed + ((T.heap.toList.drop T.heap.size).map (·.slots.size)).sum
      rw [List.drop_eq_nil_of_le (Nat.le_of_eq Array.length_toList)]
      rfl
    · show ((T.heap.toList.drop T.heap.size).map (·.slots.size)).sum ≤ 0
      rw [List.drop_eq_nil_of_le (Nat.le_of_eq Array.length_toList)]
      exact Nat.le_refl _
/-- 'throw new E()': new; dup; invokespecial; athrow -/
theorem vx_throw0 {cc : ByteArray} {pc : Nat} (hexec : p.tables.exec = Jvm.exec) (hb : c.code = cc) (hl : l.stackTraces = false) {own cls : String} {names : List String} {ik ic mc ms : Nat} {A : Nat → Prop}
    (hown : s.vm.findClass own = some m.cls) (hcls : Bundle.fit cls = true) (hnames : ∀ n ∈ names, Bundle.fit n = true)
    (hk : (Cond.classLink own ik cls).before args s = true) (hini : (Cond.initialized cls).before args s = true) (hat : ∀ w ∈ vx_at0 own ic cls names, w.before args s = true)
    (hgood : ∀ w ∈ Cond.classLink own ik cls :: Cond.initialized cls :: vx_at0 own ic cls names, vx_ot w = true)
    (hU : vx_Zq Bundle.tN "UNASSIGNED_STACK" Bundle.steD A s s.heap) (hN : vx_Zq Bundle.tN "SUPPRESSED_SENTINEL" Bundle.listD A s s.heap) (hS : va_S A s.heap H locs) (hsize : ls.size = c.maxLocals)
    (d0 : decode cc pc = .ok (.new ik, 3)) (d3 : decode cc (pc + 3) = .ok (.dup, 1)) (d4 : decode cc (pc + 4) = .ok (.invokespecial ic, 3)) (d7 : decode cc (pc + 7) = .ok (.athrow, 1))
    (hout : ∀ x ∈ c.exceptionTable.toList, covers x (pc + 7) = false)
    (hRframes : names.length + 3 < R.frames) (hRlocals : (rest.map fun v => v.category).sum + (13 * (names.length + 1) + 42) ≤ R.locals) (hRcells : cells + 1 ≤ R.cells) (hRslots : slots + 6 ≤ R.slots) (hlocks : meth.locks = false)
    (hx : ∀ t : State, s.vm.Alike t.vm → H.size ≤ t.heap.size → (∀ q : Nat, q < H.size → t.heap[q]? = H[q]?) → XC cls s t)
    (hf : ∀ z ∈ locs, free z.base) (hc : cells + 1 ≤ mc) (hs : slots + 6 ≤ ms) :
    W p l e R s m args below meth c H locs cells slots (vx_MQ below Qc XC args s mc ms free) (F0 m pc ls rest) := by
  intro T hT X
  have htr : e.platform.stackTraces = false := (show e.platform.stackTraces = l.stackTraces by rw [X.admits.platform]).trans hl
  have Y := vx_rebase X (R' := { frames := R.frames, locals := R.locals, cells := 1, slots := 6 }) (Nat.le_refl _) (Nat.le_refl _) hRcells hRslots
  obtain ⟨s', hA⟩ : ∃ z, z = (T.setVm s.vm).setFrames (.invoking m args :: below) := ⟨_, rfl⟩
  rw [← hA] at Y
  have hvm : s'.vm = s.vm := by rw [hA]; rfl
  have hhp : s'.heap = H := by rw [hA]; exact hT
  have hW0 : s.WarmedH s'.vm := by rw [hvm]; exact State.WarmedH.refl s
  have hat' : ∀ w ∈ vx_at0 own ic cls names, w.before args s' = true := fun w hw => vx_ot_at hW0 hvm.symm (hgood w (List.mem_cons_of_mem _ (List.mem_cons_of_mem _ hw))) (hat w hw)
  have hk' : (Cond.classLink own ik cls).before args s' = true := vx_ot_at hW0 hvm.symm (hgood _ List.mem_cons_self) hk
  have hini' : (Cond.initialized cls).before args s' = true := vx_ot_at hW0 hvm.symm (hgood _ (List.mem_cons_of_mem _ List.mem_cons_self)) hini
  have hU' : vx_Zq Bundle.tN "UNASSIGNED_STACK" Bundle.steD A s' s'.heap := by rw [hhp]; exact vx_Zq.moved hW0.alike (hU.kept hS.2.1)
  have hN' : vx_Zq Bundle.tN "SUPPRESSED_SENTINEL" Bundle.listD A s' s'.heap := by rw [hhp]; exact vx_Zq.moved hW0.alike (hN.kept hS.2.1)
  have h : ∀ w ∈ Bundle.ownAtoms0 own ic cls names, w.before args s' = true := vx_own hat' (vx_isRefq hU'.1) (vx_isRefq hN'.1) hU'.2.word hN'.2.word
  have hown' : s'.vm.findClass own = some m.cls := by rw [hvm]; exact hown
  have hins : (Cond.instantiable cls 6).before args s' = true := h _ (by simp [Bundle.ownAtoms0])
  obtain ⟨vm₁, cX, kX, hfX, hkX, -, -, X₁, st1⟩ := Y.newCold hexec (own := own) (C := cls) (index := ik) (n := 6) hown' hk' hins hini'
    (g := F0 m pc ls rest) rfl (by rw [hb]; exact d0) (Nat.le_refl _) (Nat.le_refl _)
  generalize hT1 : (T.setVm vm₁).pushCell { cls := cX, slots := kX.instanceTypes.map defaultValue, vm := .none } = T1 at X₁ st1
  have hcat : (Value.ref T.heap.size).category = 1 := rfl
  have hcellA : T1.heap[T.heap.size]? = some (freshCell cX kX) := by rw [← hT1]; exact State.heap_pushCell_size _ _
  have d3' : decode c.code (pc + 3) = .ok (.dup, 1) := by rw [hb]; exact d3
  obtain ⟨U, hsteps, hrun, hend, hW, hsame, ce, hce, hO⟩ := X₁.ctorThrow0 hexec htr (own := own) (cls := cls) (names := names) (ic := ic) hown' hcls hnames h (fun x hx => nomatch hx) hfX hkX hcellA (by rw [hhp, hT]; exact Nat.le_refl _)
    (g := { method := m, pc := pc + 4, locals := ls, stack := .ref T.heap.size :: .ref T.heap.size :: rest, locked := none }) rfl hsize rfl rfl (rest := rest) rfl
    (by rw [hb]; exact d4) (by rw [hb]; exact d7) hout hRframes (by simp only [List.map_cons, List.sum_cons, hcat]; omega) hlocks
  obtain ⟨f1, f2⟩ := vx_frame hsame
  rw [hhp] at f1 f2
  have hWs : s.WarmedH U.vm := State.WarmedH.trans hW0 hW
  have hcl : s.vm.findClass cls = some ce.cls := by
    have h9 := hO.cls
    rw [hvm] at h9
    exact h9
  have hall : s.sameButNew ({ U with vm := s.vm } : State) locs mc ms := by
    subst hA
    obtain ⟨e1, e2⟩ := hsame
    rw [State.setFrames_setFrames] at e1
    have h2 : (T.setVm s.vm).sameButNew ({ U with vm := s.vm } : State) [] (0 + 1) (0 + 6) := ⟨e1, e2⟩
    have h3 := X.same.trans h2
    rw [List.append_nil] at h3
    exact h3.mono hc hs
  refine ⟨U, ?_, .threw T.heap.size, hrun, hend, Or.inr ⟨T.heap.size, rfl, cls, ce, locs, hx U hWs.alike f1 (fun q hq => f2 q hq (fun z hz => nomatch hz)), hce, hO.vm, hcl, hWs, hall, hf⟩⟩
  refine st1 _ ?_
  show Steps p.tables e below (T1.setTop { method := m, pc := pc + 3, locals := ls, stack := .ref T.heap.size :: rest, locked := none }) _
  jvm_step X₁.here [X₁.here.top, hexec, d3', Value.category]
  exact hsteps
/-- 'throw new E("text")': new; dup; ldc; invokespecial; athrow -/
theorem vx_throwS {cc : ByteArray} {pc : Nat} (hexec : p.tables.exec = Jvm.exec) (hb : c.code = cc) (hl : l.stackTraces = false) {own cls text : String} {names : List String} {ik is ic mc ms sa : Nat} {A : Nat → Prop}
    (hown : s.vm.findClass own = some m.cls) (hcls : Bundle.fit cls = true) (hnames : ∀ n ∈ names, Bundle.fit n = true)
    (hk : (Cond.classLink own ik cls).before args s = true) (hini : (Cond.initialized cls).before args s = true) (hstr : vk_R own is text sa s) (hat : ∀ w ∈ vx_atS own ic cls names, w.before args s = true)
    (hgood : ∀ w ∈ Cond.classLink own ik cls :: Cond.initialized cls :: vx_atS own ic cls names, vx_ot w = true)
    (hU : vx_Zq Bundle.tN "UNASSIGNED_STACK" Bundle.steD A s s.heap) (hN : vx_Zq Bundle.tN "SUPPRESSED_SENTINEL" Bundle.listD A s s.heap) (hS : va_S A s.heap H locs) (hsize : ls.size = c.maxLocals)
    (d0 : decode cc pc = .ok (.new ik, 3)) (d3 : decode cc (pc + 3) = .ok (.dup, 1)) (d4 : decode cc (pc + 4) = .ok (.ldc is, 2)) (d6 : decode cc (pc + 6) = .ok (.invokespecial ic, 3)) (d9 : decode cc (pc + 9) = .ok (.athrow, 1))
    (hout : ∀ x ∈ c.exceptionTable.toList, covers x (pc + 9) = false)
    (hRframes : names.length + 3 < R.frames) (hRlocals : (rest.map fun v => v.category).sum + (13 * (names.length + 1) + 43) ≤ R.locals) (hRcells : cells + 1 ≤ R.cells) (hRslots : slots + 6 ≤ R.slots) (hlocks : meth.locks = false)
    (hx : ∀ t : State, s.vm.Alike t.vm → H.size ≤ t.heap.size → (∀ q : Nat, q < H.size → t.heap[q]? = H[q]?) → XC cls s t)
    (hf : ∀ z ∈ locs, free z.base) (hc : cells + 1 ≤ mc) (hs : slots + 6 ≤ ms) :
    W p l e R s m args below meth c H locs cells slots (vx_MQ below Qc XC args s mc ms free) (F0 m pc ls rest) := by
  intro T hT X
  have htr : e.platform.stackTraces = false := (show e.platform.stackTraces = l.stackTraces by rw [X.admits.platform]).trans hl
  have Y := vx_rebase X (R' := { frames := R.frames, locals := R.locals, cells := 1, slots := 6 }) (Nat.le_refl _) (Nat.le_refl _) hRcells hRslots
  obtain ⟨s', hA⟩ : ∃ z, z = (T.setVm s.vm).setFrames (.invoking m args :: below) := ⟨_, rfl⟩
  rw [← hA] at Y
  have hvm : s'.vm = s.vm := by rw [hA]; rfl
  have hhp : s'.heap = H := by rw [hA]; exact hT
  have hW0 : s.WarmedH s'.vm := by rw [hvm]; exact State.WarmedH.refl s
  have hat' : ∀ w ∈ vx_atS own ic cls names, w.before args s' = true := fun w hw => vx_ot_at hW0 hvm.symm (hgood w (List.mem_cons_of_mem _ (List.mem_cons_of_mem _ hw))) (hat w hw)
  have hk' : (Cond.classLink own ik cls).before args s' = true := vx_ot_at hW0 hvm.symm (hgood _ List.mem_cons_self) hk
  have hini' : (Cond.initialized cls).before args s' = true := vx_ot_at hW0 hvm.symm (hgood _ (List.mem_cons_of_mem _ List.mem_cons_self)) hini
  have hU' : vx_Zq Bundle.tN "UNASSIGNED_STACK" Bundle.steD A s' s'.heap := by rw [hhp]; exact vx_Zq.moved hW0.alike (hU.kept hS.2.1)
  have hN' : vx_Zq Bundle.tN "SUPPRESSED_SENTINEL" Bundle.listD A s' s'.heap := by rw [hhp]; exact vx_Zq.moved hW0.alike (hN.kept hS.2.1)
  have h : ∀ w ∈ Bundle.ownAtoms own ic cls names, w.before args s' = true := vx_own hat' (vx_isRefq hU'.1) (vx_isRefq hN'.1) hU'.2.word hN'.2.word
  have hown' : s'.vm.findClass own = some m.cls := by rw [hvm]; exact hown
  have hins : (Cond.instantiable cls 6).before args s' = true := h _ (by simp [Bundle.ownAtoms])
  obtain ⟨vm₁, cX, kX, hfX, hkX, -, -, X₁, st1⟩ := Y.newCold hexec (own := own) (C := cls) (index := ik) (n := 6) hown' hk' hins hini'
    (g := F0 m pc ls rest) rfl (by rw [hb]; exact d0) (Nat.le_refl _) (Nat.le_refl _)
  generalize hT1 : (T.setVm vm₁).pushCell { cls := cX, slots := kX.instanceTypes.map defaultValue, vm := .none } = T1 at X₁ st1
  have hcat : (Value.ref T.heap.size).category = 1 := rfl
  have hcellA : T1.heap[T.heap.size]? = some (freshCell cX kX) := by rw [← hT1]; exact State.heap_pushCell_size _ _
  have d3' : decode c.code (pc + 3) = .ok (.dup, 1) := by rw [hb]; exact d3
  have d4' : decode c.code (pc + 4) = .ok (.ldc is, 2) := by rw [hb]; exact d4
  have hstr' : vk_R own is text sa s' := vk_R.warm hW0 hstr
  obtain ⟨U, hsteps, hrun, hend, hW, hsame, ce, hce, hO⟩ := X₁.ctorThrowS hexec htr (own := own) (cls := cls) (names := names) (ic := ic) hown' hcls hnames h (fun x hx => nomatch hx) hfX hkX hcellA (by rw [hhp, hT]; exact Nat.le_refl _) (msg := .ref sa) rfl
    (g := { method := m, pc := pc + 6, locals := ls, stack := .ref sa :: .ref T.heap.size :: .ref T.heap.size :: rest, locked := none }) rfl hsize rfl rfl (rest := rest) rfl
    (by rw [hb]; exact d6) (by rw [hb]; exact d9) hout hRframes (by simp only [List.map_cons, List.sum_cons, hcat]; omega) hlocks
  obtain ⟨f1, f2⟩ := vx_frame hsame
  rw [hhp] at f1 f2
  have hWs : s.WarmedH U.vm := State.WarmedH.trans hW0 hW
  have hcl : s.vm.findClass cls = some ce.cls := by
    have h9 := hO.cls
    rw [hvm] at h9
    exact h9
  have hall : s.sameButNew ({ U with vm := s.vm } : State) locs mc ms := by
    subst hA
    obtain ⟨e1, e2⟩ := hsame
    rw [State.setFrames_setFrames] at e1
    have h2 : (T.setVm s.vm).sameButNew ({ U with vm := s.vm } : State) [] (0 + 1) (0 + 6) := ⟨e1, e2⟩
    have h3 := X.same.trans h2
    rw [List.append_nil] at h3
    exact h3.mono hc hs
  refine ⟨U, ?_, .threw T.heap.size, hrun, hend, Or.inr ⟨T.heap.size, rfl, cls, ce, locs, hx U hWs.alike f1 (fun q hq => f2 q hq (fun z hz => nomatch hz)), hce, hO.vm, hcl, hWs, hall, hf⟩⟩
  refine st1 _ ?_
  show Steps p.tables e below (T1.setTop { method := m, pc := pc + 3, locals := ls, stack := .ref T.heap.size :: rest, locked := none }) _
  jvm_step X₁.here [X₁.here.top, hexec, d3', Value.category]
  exact X₁.ldcString hexec (own := own) (text := text) (index := is) (a := sa) hown' hstr'.1 hstr'.2
    (g := { method := m, pc := pc + 4, locals := ls, stack := .ref T.heap.size :: .ref T.heap.size :: rest, locked := none }) rfl d4' _ hsteps
/-- 'throw new E("text")', the text by a wide index -/
theorem vx_throwSW {cc : ByteArray} {pc : Nat} (hexec : p.tables.exec = Jvm.exec) (hb : c.code = cc) (hl : l.stackTraces = false) {own cls text : String} {names : List String} {ik is ic mc ms sa : Nat} {A : Nat → Prop}
    (hown : s.vm.findClass own = some m.cls) (hcls : Bundle.fit cls = true) (hnames : ∀ n ∈ names, Bundle.fit n = true)
    (hk : (Cond.classLink own ik cls).before args s = true) (hini : (Cond.initialized cls).before args s = true) (hstr : vk_R own is text sa s) (hat : ∀ w ∈ vx_atS own ic cls names, w.before args s = true)
    (hgood : ∀ w ∈ Cond.classLink own ik cls :: Cond.initialized cls :: vx_atS own ic cls names, vx_ot w = true)
    (hU : vx_Zq Bundle.tN "UNASSIGNED_STACK" Bundle.steD A s s.heap) (hN : vx_Zq Bundle.tN "SUPPRESSED_SENTINEL" Bundle.listD A s s.heap) (hS : va_S A s.heap H locs) (hsize : ls.size = c.maxLocals)
    (d0 : decode cc pc = .ok (.new ik, 3)) (d3 : decode cc (pc + 3) = .ok (.dup, 1)) (d4 : decode cc (pc + 4) = .ok (.ldc_w is, 3)) (d7 : decode cc (pc + 7) = .ok (.invokespecial ic, 3)) (d10 : decode cc (pc + 10) = .ok (.athrow, 1))
    (hout : ∀ x ∈ c.exceptionTable.toList, covers x (pc + 10) = false)
    (hRframes : names.length + 3 < R.frames) (hRlocals : (rest.map fun v => v.category).sum + (13 * (names.length + 1) + 43) ≤ R.locals) (hRcells : cells + 1 ≤ R.cells) (hRslots : slots + 6 ≤ R.slots) (hlocks : meth.locks = false)
    (hx : ∀ t : State, s.vm.Alike t.vm → H.size ≤ t.heap.size → (∀ q : Nat, q < H.size → t.heap[q]? = H[q]?) → XC cls s t)
    (hf : ∀ z ∈ locs, free z.base) (hc : cells + 1 ≤ mc) (hs : slots + 6 ≤ ms) :
    W p l e R s m args below meth c H locs cells slots (vx_MQ below Qc XC args s mc ms free) (F0 m pc ls rest) := by
  intro T hT X
  have htr : e.platform.stackTraces = false := (show e.platform.stackTraces = l.stackTraces by rw [X.admits.platform]).trans hl
  have Y := vx_rebase X (R' := { frames := R.frames, locals := R.locals, cells := 1, slots := 6 }) (Nat.le_refl _) (Nat.le_refl _) hRcells hRslots
  obtain ⟨s', hA⟩ : ∃ z, z = (T.setVm s.vm).setFrames (.invoking m args :: below) := ⟨_, rfl⟩
  rw [← hA] at Y
  have hvm : s'.vm = s.vm := by rw [hA]; rfl
  have hhp : s'.heap = H := by rw [hA]; exact hT
  have hW0 : s.WarmedH s'.vm := by rw [hvm]; exact State.WarmedH.refl s
  have hat' : ∀ w ∈ vx_atS own ic cls names, w.before args s' = true := fun w hw => vx_ot_at hW0 hvm.symm (hgood w (List.mem_cons_of_mem _ (List.mem_cons_of_mem _ hw))) (hat w hw)
  have hk' : (Cond.classLink own ik cls).before args s' = true := vx_ot_at hW0 hvm.symm (hgood _ List.mem_cons_self) hk
  have hini' : (Cond.initialized cls).before args s' = true := vx_ot_at hW0 hvm.symm (hgood _ (List.mem_cons_of_mem _ List.mem_cons_self)) hini
  have hU' : vx_Zq Bundle.tN "UNASSIGNED_STACK" Bundle.steD A s' s'.heap := by rw [hhp]; exact vx_Zq.moved hW0.alike (hU.kept hS.2.1)
  have hN' : vx_Zq Bundle.tN "SUPPRESSED_SENTINEL" Bundle.listD A s' s'.heap := by rw [hhp]; exact vx_Zq.moved hW0.alike (hN.kept hS.2.1)
  have h : ∀ w ∈ Bundle.ownAtoms own ic cls names, w.before args s' = true := vx_own hat' (vx_isRefq hU'.1) (vx_isRefq hN'.1) hU'.2.word hN'.2.word
  have hown' : s'.vm.findClass own = some m.cls := by rw [hvm]; exact hown
  have hins : (Cond.instantiable cls 6).before args s' = true := h _ (by simp [Bundle.ownAtoms])
  obtain ⟨vm₁, cX, kX, hfX, hkX, -, -, X₁, st1⟩ := Y.newCold hexec (own := own) (C := cls) (index := ik) (n := 6) hown' hk' hins hini'
    (g := F0 m pc ls rest) rfl (by rw [hb]; exact d0) (Nat.le_refl _) (Nat.le_refl _)
  generalize hT1 : (T.setVm vm₁).pushCell { cls := cX, slots := kX.instanceTypes.map defaultValue, vm := .none } = T1 at X₁ st1
  have hcat : (Value.ref T.heap.size).category = 1 := rfl
  have hcellA : T1.heap[T.heap.size]? = some (freshCell cX kX) := by rw [← hT1]; exact State.heap_pushCell_size _ _
  have d3' : decode c.code (pc + 3) = .ok (.dup, 1) := by rw [hb]; exact d3
  have d4' : decode c.code (pc + 4) = .ok (.ldc_w is, 3) := by rw [hb]; exact d4
  have hstr' : vk_R own is text sa s' := vk_R.warm hW0 hstr
  obtain ⟨U, hsteps, hrun, hend, hW, hsame, ce, hce, hO⟩ := X₁.ctorThrowS hexec htr (own := own) (cls := cls) (names := names) (ic := ic) hown' hcls hnames h (fun x hx => nomatch hx) hfX hkX hcellA (by rw [hhp, hT]; exact Nat.le_refl _) (msg := .ref sa) rfl
    (g := { method := m, pc := pc + 7, locals := ls, stack := .ref sa :: .ref T.heap.size :: .ref T.heap.size :: rest, locked := none }) rfl hsize rfl rfl (rest := rest) rfl
    (by rw [hb]; exact d7) (by rw [hb]; exact d10) hout hRframes (by simp only [List.map_cons, List.sum_cons, hcat]; omega) hlocks
  obtain ⟨f1, f2⟩ := vx_frame hsame
  rw [hhp] at f1 f2
  have hWs : s.WarmedH U.vm := State.WarmedH.trans hW0 hW
  have hcl : s.vm.findClass cls = some ce.cls := by
    have h9 := hO.cls
    rw [hvm] at h9
    exact h9
  have hall : s.sameButNew ({ U with vm := s.vm } : State) locs mc ms := by
    subst hA
    obtain ⟨e1, e2⟩ := hsame
    rw [State.setFrames_setFrames] at e1
    have h2 : (T.setVm s.vm).sameButNew ({ U with vm := s.vm } : State) [] (0 + 1) (0 + 6) := ⟨e1, e2⟩
    have h3 := X.same.trans h2
    rw [List.append_nil] at h3
    exact h3.mono hc hs
  refine ⟨U, ?_, .threw T.heap.size, hrun, hend, Or.inr ⟨T.heap.size, rfl, cls, ce, locs, hx U hWs.alike f1 (fun q hq => f2 q hq (fun z hz => nomatch hz)), hce, hO.vm, hcl, hWs, hall, hf⟩⟩
  refine st1 _ ?_
  show Steps p.tables e below (T1.setTop { method := m, pc := pc + 3, locals := ls, stack := .ref T.heap.size :: rest, locked := none }) _
  jvm_step X₁.here [X₁.here.top, hexec, d3', Value.category]
  exact X₁.ldcStringW hexec (own := own) (text := text) (index := is) (a := sa) hown' hstr'.1 hstr'.2
    (g := { method := m, pc := pc + 4, locals := ls, stack := .ref T.heap.size :: .ref T.heap.size :: rest, locked := none }) rfl d4' _ hsteps
end Ends
section Bodies
variable {l : Launch}
theorem vx_ofW {y : MethodName} {ws ws' : List Cond} {rm : Room} {Pc : Array Value → State → Prop} {Qc : Array Value → State → Outcome → State → Prop} {XC : String → State → State → Prop} {mc ms : Nat} {free : Addr → Prop} {cc : ByteArray} {maxL : Nat} {ret : Option FieldType}
    (hy : plainName y.cls = true) (hw : ws = Cond.code y cc maxL ret :: ws')
    (body : ∀ p e s m args below meth c s₁, BodyLoose p l y (headSpec ws rm) cc maxL ret e s m args below meth c s₁ → c.maxLocals = maxL → (∀ x ∈ c.exceptionTable.toList, False) → Pc args s →
      W p l e (headSpec ws rm).room s m args below meth c s.heap [] 0 0 (vx_MQ below Qc XC args s mc ms free) (entryFrame m args maxL)) : vx_Met l y ws rm Pc Qc XC mc ms free := by
  refine MetFree.of_bodyS (code := cc) (maxLocals := maxL) (ret := ret) hy ?_ ?_
  · intro args s m h hn
    obtain ⟨meth, c, h1, h2, h3, h4, h5, h6, -, -⟩ := Cond.code_spec hn (atoms_spec (ws := ws) h _ (by rw [hw]; exact List.mem_cons_self))
    exact ⟨meth, c, h1, h2, h3, h4, h5, h6⟩
  · intro p e s m args below meth c s₁ B hml hP _
    have hh0 : s₁.heap = s.heap := by rw [B.state]; rfl
    have ht : ∀ x ∈ c.exceptionTable.toList, False := by
      obtain ⟨meth9, c9, h1, h2, -, -, -, -, h7, -⟩ := Cond.code_spec B.named (atoms_spec (ws := ws) B.pre _ (by rw [hw]; exact List.mem_cons_self))
      cases Option.some.inj (h1.symm.trans B.method)
      cases Option.some.inj (h2.symm.trans (Stand.of_body B).code)
      intro x hx
      rw [Array.isEmpty_iff.mp h7] at hx
      cases hx
    obtain ⟨t, a1, o, b1, b2, b3⟩ := body p e s m args below meth c s₁ B hml ht hP s₁ hh0 (Stand.of_body B)
    exact ⟨t, o, a1, b1, b2, b3⟩
/-- the table of a body with handlers -/
theorem vx_table {p : Program} {x y : MethodName} {S : Spec} {cc bytes : ByteArray} {maxL maxL' : Nat} {ret ret' : Option FieldType} {e : Env} {s s₁ : State} {m : MethodId} {args : Array Value} {below : List Frame} {meth : Method} {c : Code} {hh : List (Nat × Nat × Nat × Nat)}
    (B : BodyLoose p l y S cc maxL ret e s m args below meth c s₁) (h : (Cond.codeWith y bytes maxL' ret' hh).before args s = true) : c.exceptionTable.toList = tableOf hh := by
  obtain ⟨m9, meth9, c9, hn9, h1, h2, -, -, h6, -⟩ := Cond.codeWith_spec h
  cases Option.some.inj (hn9.symm.trans B.named)
  cases Option.some.inj (h1.symm.trans B.method)
  cases Option.some.inj (h2.symm.trans (Stand.of_body B).code)
  rw [← h6, table_eq]
end Bodies
end VXA
/-! ===== END ===== -/
/-! ===== BEGIN a static call of a method with an exception table ===== -/
section VXS
variable {p : Program} {l : Launch} {e : Env} {R : Room} {s : State} {m : MethodId} {args : Array Value} {below : List Frame} {meth : Method} {c : Code} {T : State} {H : Heap} {locs : List Loc} {cells slots : Nat}
abbrev vx_CSW (R : Room) (s : State) (args : Array Value) (own : String) (index : Nat) (y : MethodName) (bytes : ByteArray) (maxL : Nat) (ret : Option FieldType) (hh : List (Nat × Nat × Nat × Nat)) (ws : List Cond) (rm : Room) (mc ms n : Nat) : Prop :=
  (rm.cells = mc ∧ rm.slots = ms ∧ rm.frames + 1 ≤ R.frames ∧ 8 + (maxL + 11) + rm.locals ≤ R.locals ∧ (∀ w ∈ ws, ∀ (a' : Array Value) (U : State), s.WarmedH U.vm → w.before a' U = true) ∧ Cond.codeWith y bytes maxL ret hh ∈ ws) ∧
  (Cond.codeWith y bytes maxL ret hh).before args s = true ∧ (Cond.initialized y.cls).before args s = true ∧ (y.cls ≠ "java/lang/invoke/MethodHandle" ∧ y.cls ≠ "java/lang/invoke/VarHandle") ∧
  (∀ sig, parseMethodDescriptor y.desc = some sig → n = sig.parameters.length) ∧ (Cond.methodLink own index y).before args s = true ∧ (Cond.static y).before args s = true
theorem vx_cwSW {own : String} {index maxL mc ms : Nat} {y : MethodName} {bytes : ByteArray} {ret : Option FieldType} {hh : List (Nat × Nat × Nat × Nat)} {Ts ws ws' : List Cond} {rm : Room} (n : Nat) (ht : ∀ w ∈ Ts, w.before args s = true) (hT : GoodIn Ts (va_wsS own index y ws)) (hw : ws = Cond.codeWith y bytes maxL ret hh :: ws') (hrc : rm.cells = mc) (hrs : rm.slots = ms)
    (hd : y.cls ≠ "java/lang/invoke/MethodHandle" ∧ y.cls ≠ "java/lang/invoke/VarHandle" ∧ (parseMethodDescriptor y.desc).map (fun d => d.parameters.length) = some n) (hR : rm.frames + 1 ≤ R.frames ∧ 8 + (maxL + 11) + rm.locals ≤ R.locals) :
    vx_CSW R s args own index y bytes maxL ret hh ws rm mc ms n := by
  have ok : ∀ w ∈ va_wsS own index y ws, w.before args s = true := fun w h => ht w (hT w h).1
  have hG : GoodIn Ts ws := fun w h => hT w (by unfold va_wsS; exact List.mem_append_right _ h)
  have hc : Cond.codeWith y bytes maxL ret hh ∈ ws := by rw [hw]; exact List.mem_cons_self
  refine ⟨⟨hrc, hrs, hR.1, hR.2, pay_in ht hG, hc⟩, ht _ (hG _ hc).1, ok _ (by simp [va_wsS]), ⟨hd.1, hd.2.1⟩, fun sig h => ?_, ok _ (by simp [va_wsS]), ok _ (by simp [va_wsS])⟩
  have h2 := hd.2.2
  rw [h] at h2
  exact (Option.some.inj h2).symm
theorem vx_callSW (X : Stand p l e R s m args below meth c T locs cells slots) (hexec : p.tables.exec = Jvm.exec) {own : String} {index : Nat} {y : MethodName} {bytes : ByteArray} {maxL : Nat} {ret : Option FieldType} {hh : List (Nat × Nat × Nat × Nat)}
    (hown : s.vm.findClass own = some m.cls) (hlink : (Cond.methodLink own index y).before args s = true) (hstat : (Cond.static y).before args s = true) (hinit : (Cond.initialized y.cls).before args s = true)
    (hcode : (Cond.codeWith y bytes maxL ret hh).before args s = true) (hy : y.cls ≠ "java/lang/invoke/MethodHandle" ∧ y.cls ≠ "java/lang/invoke/VarHandle")
    {W9 : Nat} {Pre : Pt → Array Value → Prop} {Post : Pt → Array Value → Option Value → Pt → Prop} (hK : Back l R p e below s args y 3 W9 Pre Post)
    {g : JFrame} (hg : g.method = m) (hsize : g.locals.size = c.maxLocals) {argsL rest : List Value} (hlen : ∀ sig, parseMethodDescriptor y.desc = some sig → argsL.length = sig.parameters.length)
    (hstack : g.stack = argsL.reverse ++ rest) (hW : 2 * g.monitorRoom + (rest.map fun v => v.category).sum ≤ W9) (hdg : decode c.code g.pc = .ok (.invokestatic index, 3))
    (hpre : ∀ vm₁, s.WarmedH vm₁ → Pre ⟨T.setVm vm₁, locs, cells, slots⟩ argsL.toArray) :
    ∃ (v : Option Value) (vm₁ : Vm) (B : Pt), s.WarmedH vm₁ ∧ Stand p l e R s m args below meth c B.U B.locs B.cells B.slots ∧ Post ⟨T.setVm vm₁, locs, cells, slots⟩ argsL.toArray v B ∧
      ∀ target, Steps p.tables e below (B.U.setTop { g with pc := g.pc + 3, stack := v.toList ++ rest }) target → Steps p.tables e below (T.setTop g) target := by
  obtain ⟨mk, methM, cM, hnamed, hmethM, -, -, -, -, -, -, hsigM⟩ := Cond.codeWith_spec hcode
  have hstatic : methM.isStatic = true := Cond.static_spec hnamed hmethM hstat
  obtain ⟨kP, hkP, -⟩ := className_of_methodNamed hnamed
  have hinitP : kP.init = .initialized := Cond.initialized_spec (findClass_of_methodNamed hnamed) hkP hinit
  obtain ⟨vm₁, X₁, hstep₁⟩ := X.invokestatic hexec hown hlink hnamed hmethM hstatic hkP hinitP hy (g := g) hg (argsL := argsL) (rest := rest) (hlen _ hsigM) hstack hdg
  obtain ⟨v, B, X', hpost, hsteps⟩ := hK m meth c ⟨T.setVm vm₁, locs, cells, slots⟩ { g with stack := rest } (.invokestatic index) mk argsL.toArray X₁ hg hsize hdg hW (X₁.named hnamed) (hpre vm₁ X₁.warmed)
  exact ⟨v, vm₁, B, X₁.warmed, X', hpost, fun target h => hstep₁ _ fun acts => by rw [doInvoke_state]; exact hsteps.trans h⟩
theorem vx_runSW {y : MethodName} {bytes cc : ByteArray} {maxL nL mc ms n index : Nat} {ret : Option FieldType} {hh : List (Nat × Nat × Nat × Nat)} {ws : List Cond} {rm : Room} {Pc : Array Value → State → Prop} {Qc : Array Value → State → Outcome → State → Prop} {free : Addr → Prop} {Ts : List Cond} {own : String} {As rest : List Value} {g : JFrame}
    (S : CallFix p m c cc nL s args Ts own) (hM : Met l y ws rm Pc Qc mc ms free) (cw : vx_CSW R s args own index y bytes maxL ret hh ws rm mc ms n) (hp : PreS s H Pc As)
    (hg : g.method = m) (hn : As.length = n) (hsize : g.locals.size = nL) (hstack : g.stack = As.reverse ++ rest) (hW : 2 * g.monitorRoom + (rest.map fun v => v.category).sum ≤ 8) (hdg : decode cc g.pc = .ok (.invokestatic index, 3)) (hf : cells + mc ≤ R.cells ∧ slots + ms ≤ R.slots) :
    va_Run p l e R s m args below meth c H locs cells slots mc ms g rest (Qc As.toArray) (free) := by
  obtain ⟨⟨hrc, hrs, hfr, hlo, hws, hcw⟩, hcode, hini, hy, hlen, hl, hstt⟩ := cw
  have hK : Back l R p e below s args y 3 8 (PreOf R mc ms Pc) (PostOf Qc mc ms free) := va_backW (hh := hh) (bytes := bytes) (maxL := maxL) (ret := ret) hM hp.1 hrc hrs hfr hlo hws hcw (fun a' U hW => word_at hW (Or.inl (by first | rfl | simp [Cond.onTables, Cond.keeps, Cond.steady])) hini)
  obtain ⟨hx, hb, hml, ho, -⟩ := S
  intro T hT X
  obtain ⟨v, vm₁, ⟨U', l2, c2, s2⟩, hW₁, X', ⟨g', mk, t, L, e1, e2, hq, h1, hL, h2, h3⟩, st⟩ := vx_callSW X hx (hh := hh) (bytes := bytes) (maxL := maxL) (ret := ret) ho hl hstt hini hcode hy hK hg (hsize.trans hml.symm) (argsL := As) (rest := rest) (fun sig h => hn.trans (hlen sig h)) hstack hW (by rw [hb]; exact hdg)
    (fun vm₁ hW₁ => ⟨hf.1, hf.2, hp.2 (T.setVm vm₁) hT hW₁⟩)
  dsimp only [Pt.U, Pt.locs, Pt.cells, Pt.slots] at X' e1 e2 h1 h2 h3 st
  subst h1; subst h2; subst h3
  exact ⟨v, (T.setVm vm₁).calling g' mk As.toArray, t, U', L, hT, X', hL, e1, e2, hq, st⟩
/-- a thing of a world lies in the heap -/
theorem vx_lt {D : va_G} {cl : List vw_C} {ws : va_W} {H1 : Heap} (h : va_P D cl ws H1) {k : Nat} {q : Nat × va_E} (hk : ws[k]? = some q) : q.1 < H1.size := (h k q hk).lt
end VXS
/-! ===== END ===== -/
/-! ===== BEGIN methods with a table of their own: called by a name, returning or throwing ===== -/
section VXH
/-! vx_backW, vx_callVX, vx_callSX, vx_callVW, vx_runVW, vx_runVX, vx_runSX, vx_ofWH follow the same proofs as their sisters above (Free/Laws.lean, Shelf42/LK1.lean); vx_outP calls Shelf42/NT130.lean (outThrough). -/
section
variable {l : Launch} {R : Room} {p : Program} {e : Env} {below : List Frame} {s : State} {sargs : Array Value} {y : MethodName} {len W9 : Nat}
theorem vx_backW {ws : List Cond} {rm : Room} {Pc : Array Value → State → Prop} {Qc : Array Value → State → Outcome → State → Prop} {XC : String → State → State → Prop} {mc ms : Nat} {free : Addr → Prop} {bytes : ByteArray} {maxL : Nat} {ret : Option FieldType} {hh : List (Nat × Nat × Nat × Nat)}
    (hM : vx_Met l y ws rm Pc Qc XC mc ms free) (hblind : FrameBlind Pc) (hrc : rm.cells = mc) (hrs : rm.slots = ms)
    (hframes : rm.frames + 1 ≤ R.frames) (hlocals : W9 + (maxL + 11) + rm.locals ≤ R.locals)
    (hws : ∀ w ∈ ws, ∀ a' U, s.WarmedH U.vm → w.before a' U = true) (hcode : Cond.codeWith y bytes maxL ret hh ∈ ws) (hinit : ∀ a' U, s.WarmedH U.vm → (Cond.initialized y.cls).before a' U = true) :
    vx_Back l R p e below s sargs y len W9 (PreOf R mc ms Pc) (PostOf Qc mc ms free) (vx_Post XC mc ms free) := by
  intro m meth c A g ig mk a X hg hsize hdg hW hn hp
  have h1 : (headSpec ws rm).pre.before a A.U = true := atoms_intro fun w hw => hws w hw _ _ X.warmed
  have h2 : (Cond.codeWith y bytes maxL ret hh).before a A.U = true := hws _ hcode _ _ X.warmed
  have h3 : (Cond.initialized y.cls).before a A.U = true := hinit _ _ X.warmed
  have h4 : A.cells + (headSpec ws rm).room.cells ≤ R.cells := by rw [show (headSpec ws rm).room.cells = mc from hrc]; exact hp.1
  have h5 : A.slots + (headSpec ws rm).room.slots ≤ R.slots := by rw [show (headSpec ws rm).room.slots = ms from hrs]; exact hp.2.1
  have hPc : Pc a (A.U.calling g mk a) := hblind _ _ _ _ hp.2.2
  obtain ⟨U, Ls, c0, s0⟩ := A
  dsimp only [Pt.U, Pt.locs, Pt.cells, Pt.slots] at h1 h2 h3 h4 h5 X hn hPc ⊢
  obtain ⟨m9, methY, cY, hn9, hmY, hcY, -, hlY, -⟩ := Cond.codeWith_spec h2
  cases Option.some.inj (hn9.symm.trans hn)
  obtain ⟨kY, hkY, -⟩ := className_of_methodNamed hn
  have hinitY : kY.init = .initialized := Cond.initialized_spec (findClass_of_methodNamed hn) hkY h3
  have h : At U g.method c below := by rw [hg]; exact X.here
  have hlocals9 : W9 + (maxL + 11) + (headSpec ws rm).room.locals ≤ R.locals := hlocals
  have happ : (headSpec ws rm).appliesLoose y e.platform (U.calling g mk a) = true :=
    Spec.appliesLoose_calling (g := g) h hdg hn hkY hinitY
      (X.room_calling (g := g) (R' := (headSpec ws rm).room) hsize hmY hcY hframes (by rw [hlY]; omega) h4 h5) h1
  obtain ⟨mid, hmid⟩ := h.above
  have hfr : (U.setTop g).frames = (.java g :: mid) ++ below := by rw [State.frames_setTop' g h.top, hmid]; rfl
  obtain ⟨o, s₂, hsteps, -, hend, hq⟩ := Steps.callFree hM p X.admits X.cas X.clock (acts := []) hfr happ hPc trivial
  have hq' : vx_Q Qc XC mc ms free a (U.calling g mk a) o s₂ := hq
  rw [State.frames_setTop' g h.top] at hend
  obtain ⟨g₀, hg0⟩ := Option.isSome_iff_exists.mp h.top
  obtain ⟨r, hr⟩ := State.topJava?_eq_some.mp hg0
  have hr' : (({ U with heap := s₂.heap, slotsUsed := s₂.slotsUsed } : State).setVm s₂.vm).frames = .java g₀ :: r := hr
  rcases hq' with ⟨hqc, L, hfe, hL⟩ | ⟨q, rfl, E, ce, L, hx, hce, hcv, hcl, hW₂, hsm, hL⟩
  · obtain ⟨⟨v, rfl⟩, hW₂, e2, q2, q3, q4, q5, q6⟩ := id hfe
    have e3 : s₂ = ({ (U.calling g mk a).setFrames s₂.frames with heap := s₂.heap, slotsUsed := s₂.slotsUsed } : State).setVm s₂.vm := by
      have : s₂ = ({ s₂ with vm := (U.calling g mk a).vm } : State).setVm s₂.vm := rfl
      rw [e2] at this
      exact this
    obtain ⟨c₂, i₂, len₂, hc₂, hd₂, hf₂⟩ := hend
    have hW' : U.WarmedH s₂.vm := hW₂
    have hcc : c₂ = c := by
      have h1 : s₂.code? g.method = U.code? g.method := by
        rw [State.code?_eq, State.code?_eq, hW'.alike.method?]
      exact Option.some.inj (hc₂.symm.trans (h1.trans h.code))
    subst hcc
    have hlen : len₂ = len := by rw [hdg] at hd₂; cases hd₂; rfl
    subst hlen
    have hs₂ : s₂ = (({ U with heap := s₂.heap, slotsUsed := s₂.slotsUsed } : State).setVm s₂.vm).setTop { g with pc := g.pc + len₂, stack := v.toList ++ g.stack } := by
      refine e3.trans ?_
      rw [hf₂, State.calling_eq h.top, State.setFrames_setFrames, State.setTop_of_frames _ hr', hr]
      rfl
    have hsame : U.sameButNew ({ U with heap := s₂.heap, slotsUsed := s₂.slotsUsed } : State) L mc ms := by
      refine ⟨?_, q2, q3, q4, q5, q6⟩
      obtain ⟨t, ht, -⟩ := State.frames_cons hr
      show ({ U with heap := s₂.heap, slotsUsed := s₂.slotsUsed } : State) = { U.setFrames U.frames with heap := s₂.heap, slotsUsed := s₂.slotsUsed }
      rw [State.setFrames_self ht]
    subst hg
    refine Or.inl ⟨v, ⟨(({ U with heap := s₂.heap, slotsUsed := s₂.slotsUsed } : State).setVm s₂.vm), Ls ++ L, c0 + mc, s0 + ms⟩,
      ⟨X.admits, X.cas, X.clock, X.frames, X.room, X.hears, X.method, X.code, (X.here.setHeapUsed s₂.heap s₂.slotsUsed).setVm hW'.alike, X.tail, State.WarmedH.trans X.warmed hW', X.limits, X.bytes, X.same.trans (hsame.setVm s.vm)⟩,
      ⟨g, mk, s₂, L, rfl, rfl, hqc, rfl, hL, rfl, rfl⟩, ?_⟩
    show Steps p.tables e below _ ((({ U with heap := s₂.heap, slotsUsed := s₂.slotsUsed } : State).setVm s₂.vm).setTop { g with pc := g.pc + len₂, stack := v.toList ++ g.stack })
    rw [← hs₂]
    exact hsteps
  · obtain ⟨e2, q2, q3, q4, q5, q6⟩ := id hsm
    have e3 : s₂ = ({ (U.calling g mk a).setFrames s₂.frames with heap := s₂.heap, slotsUsed := s₂.slotsUsed } : State).setVm s₂.vm := by
      have : s₂ = ({ s₂ with vm := (U.calling g mk a).vm } : State).setVm s₂.vm := rfl
      rw [e2] at this
      exact this
    have hf₂ : s₂.frames = .throwing q :: .java g :: U.frames.tail := hend
    have hW' : U.WarmedH s₂.vm := hW₂
    have hs₂ : s₂ = ((({ U with heap := s₂.heap, slotsUsed := s₂.slotsUsed } : State).setVm s₂.vm).setTop g).pushFrame (.throwing q) := by
      refine e3.trans ?_
      rw [hf₂, State.calling_eq h.top, State.setFrames_setFrames, State.pushFrame, State.frames_setTop _ hr', State.setTop_of_frames _ hr', State.setFrames_setFrames, hr]
      rfl
    have hsame : U.sameButNew ({ U with heap := s₂.heap, slotsUsed := s₂.slotsUsed } : State) L mc ms := by
      refine ⟨?_, q2, q3, q4, q5, q6⟩
      obtain ⟨t, ht, -⟩ := State.frames_cons hr
      show ({ U with heap := s₂.heap, slotsUsed := s₂.slotsUsed } : State) = { U.setFrames U.frames with heap := s₂.heap, slotsUsed := s₂.slotsUsed }
      rw [State.setFrames_self ht]
    subst hg
    refine Or.inr ⟨q, ⟨(({ U with heap := s₂.heap, slotsUsed := s₂.slotsUsed } : State).setVm s₂.vm), Ls ++ L, c0 + mc, s0 + ms⟩,
      ⟨X.admits, X.cas, X.clock, X.frames, X.room, X.hears, X.method, X.code, (X.here.setHeapUsed s₂.heap s₂.slotsUsed).setVm hW'.alike, X.tail, State.WarmedH.trans X.warmed hW', X.limits, X.bytes, X.same.trans (hsame.setVm s.vm)⟩,
      ⟨g, mk, s₂, L, E, ce, rfl, rfl, hx, hce, hcv, hcl, rfl, hL, rfl, rfl⟩, ?_⟩
    show Steps p.tables e below _ (((({ U with heap := s₂.heap, slotsUsed := s₂.slotsUsed } : State).setVm s₂.vm).setTop g).pushFrame (.throwing q))
    rw [← hs₂]
    exact hsteps
end
variable {p : Program} {l : Launch} {e : Env} {R : Room} {s : State} {m : MethodId} {args : Array Value} {below : List Frame} {meth : Method} {c : Code} {T : State} {H : Heap} {locs : List Loc} {cells slots : Nat}
theorem vx_callVX (X : Stand p l e R s m args below meth c T locs cells slots) (hexec : p.tables.exec = Jvm.exec) {own C : String} {index : Nat} {y : MethodName} {bytes : ByteArray} {maxL : Nat} {ret : Option FieldType} {hh : List (Nat × Nat × Nat × Nat)}
    (hown : s.vm.findClass own = some m.cls) (hlink : (Cond.methodLink own index y).before args s = true) (hinst : (Cond.instanceMethod y).before args s = true) (hsel : (Cond.selects C y y).before args s = true)
    (hcode : (Cond.codeWith y bytes maxL ret hh).before args s = true) (hy : y.cls ≠ "java/lang/invoke/MethodHandle" ∧ y.cls ≠ "java/lang/invoke/VarHandle")
    {W9 : Nat} {Pre : Pt → Array Value → Prop} {Post : Pt → Array Value → Option Value → Pt → Prop} {PostX : Pt → Array Value → Addr → Pt → Prop} (hK : vx_Back l R p e below s args y 3 W9 Pre Post PostX)
    {b : Addr} {cellB : Cell} (hcell : T.heap[b]? = some cellB) (hobj : cellB.vm.isStatics = false) (hcls : s.vm.findClass C = some cellB.cls)
    {g : JFrame} (hg : g.method = m) (hsize : g.locals.size = c.maxLocals) {argsL rest : List Value} (hlen : ∀ sig, parseMethodDescriptor y.desc = some sig → argsL.length = sig.parameters.length)
    (hstack : g.stack = argsL.reverse ++ .ref b :: rest) (hW : 2 * g.monitorRoom + (rest.map fun v => v.category).sum ≤ W9) (hdg : decode c.code g.pc = .ok (.invokevirtual index, 3))
    (hpre : ∀ vm₁, s.WarmedH vm₁ → Pre ⟨T.setVm vm₁, locs, cells, slots⟩ (Value.ref b :: argsL).toArray) :
    (∃ (v : Option Value) (vm₁ : Vm) (B : Pt), s.WarmedH vm₁ ∧ Stand p l e R s m args below meth c B.U B.locs B.cells B.slots ∧ Post ⟨T.setVm vm₁, locs, cells, slots⟩ (Value.ref b :: argsL).toArray v B ∧
      ∀ target, Steps p.tables e below (B.U.setTop { g with pc := g.pc + 3, stack := v.toList ++ rest }) target → Steps p.tables e below (T.setTop g) target) ∨
    (∃ (q : Addr) (vm₁ : Vm) (B : Pt), s.WarmedH vm₁ ∧ Stand p l e R s m args below meth c B.U B.locs B.cells B.slots ∧ PostX ⟨T.setVm vm₁, locs, cells, slots⟩ (Value.ref b :: argsL).toArray q B ∧
      Steps p.tables e below (T.setTop g) ((B.U.setTop { g with stack := rest }).pushFrame (.throwing q))) := by
  obtain ⟨mk, methM, hnamed, hmethM, hstM, habM⟩ := Cond.instanceMethod_spec hinst
  obtain ⟨m8, methM', cM, hn8, hmethM', -, -, -, -, -, -, hsigM⟩ := Cond.codeWith_spec hcode
  cases Option.some.inj (hn8.symm.trans hnamed)
  cases hmethM.symm.trans hmethM'
  obtain ⟨c2, r2, m2, q1, q2, q3, q4, kP, hkP, hkPi⟩ := Cond.selects_spec hsel
  cases hcls.symm.trans q1
  cases (State.methodFound?_of_named hnamed hy).symm.trans q2
  cases hnamed.symm.trans q3
  have hselP : selectMethod e.platform s.vm cellB.cls mk = .method mk := by rw [Launch.admits_selectMethod X.admits]; exact q4
  obtain ⟨vm₁, X₁, hstep₁⟩ := X.invokevirtual hexec hown hlink hnamed hmethM hstM hkP hkPi hy (a := b) (cell := cellB) hcell
    (fun z h => by rw [h] at hobj; cases hobj) hselP hmethM habM hkP hkPi (g := g) hg (argsL := argsL) (rest := rest) (hlen _ hsigM) hstack hdg
  rcases hK m meth c ⟨T.setVm vm₁, locs, cells, slots⟩ { g with stack := rest } (.invokevirtual index) mk (Value.ref b :: argsL).toArray X₁ hg hsize hdg hW (X₁.named hnamed) (hpre vm₁ X₁.warmed) with ⟨v, B, X', hpost, hsteps⟩ | ⟨q, B, X', hpost, hsteps⟩
  · exact Or.inl ⟨v, vm₁, B, X₁.warmed, X', hpost, fun target h => hstep₁ _ fun acts => by rw [doInvoke_state]; exact hsteps.trans h⟩
  · exact Or.inr ⟨q, vm₁, B, X₁.warmed, X', hpost, hstep₁ _ fun acts => by rw [doInvoke_state]; exact hsteps⟩
theorem vx_callSX (X : Stand p l e R s m args below meth c T locs cells slots) (hexec : p.tables.exec = Jvm.exec) {own : String} {index : Nat} {y : MethodName} {bytes : ByteArray} {maxL : Nat} {ret : Option FieldType} {hh : List (Nat × Nat × Nat × Nat)}
    (hown : s.vm.findClass own = some m.cls) (hlink : (Cond.methodLink own index y).before args s = true) (hstat : (Cond.static y).before args s = true) (hinit : (Cond.initialized y.cls).before args s = true)
    (hcode : (Cond.codeWith y bytes maxL ret hh).before args s = true) (hy : y.cls ≠ "java/lang/invoke/MethodHandle" ∧ y.cls ≠ "java/lang/invoke/VarHandle")
    {W9 : Nat} {Pre : Pt → Array Value → Prop} {Post : Pt → Array Value → Option Value → Pt → Prop} {PostX : Pt → Array Value → Addr → Pt → Prop} (hK : vx_Back l R p e below s args y 3 W9 Pre Post PostX)
    {g : JFrame} (hg : g.method = m) (hsize : g.locals.size = c.maxLocals) {argsL rest : List Value} (hlen : ∀ sig, parseMethodDescriptor y.desc = some sig → argsL.length = sig.parameters.length)
    (hstack : g.stack = argsL.reverse ++ rest) (hW : 2 * g.monitorRoom + (rest.map fun v => v.category).sum ≤ W9) (hdg : decode c.code g.pc = .ok (.invokestatic index, 3))
    (hpre : ∀ vm₁, s.WarmedH vm₁ → Pre ⟨T.setVm vm₁, locs, cells, slots⟩ argsL.toArray) :
    (∃ (v : Option Value) (vm₁ : Vm) (B : Pt), s.WarmedH vm₁ ∧ Stand p l e R s m args below meth c B.U B.locs B.cells B.slots ∧ Post ⟨T.setVm vm₁, locs, cells, slots⟩ argsL.toArray v B ∧
      ∀ target, Steps p.tables e below (B.U.setTop { g with pc := g.pc + 3, stack := v.toList ++ rest }) target → Steps p.tables e below (T.setTop g) target) ∨
    (∃ (q : Addr) (vm₁ : Vm) (B : Pt), s.WarmedH vm₁ ∧ Stand p l e R s m args below meth c B.U B.locs B.cells B.slots ∧ PostX ⟨T.setVm vm₁, locs, cells, slots⟩ argsL.toArray q B ∧
      Steps p.tables e below (T.setTop g) ((B.U.setTop { g with stack := rest }).pushFrame (.throwing q))) := by
  obtain ⟨mk, methM, cM, hnamed, hmethM, -, -, -, -, -, -, hsigM⟩ := Cond.codeWith_spec hcode
  have hstatic : methM.isStatic = true := Cond.static_spec hnamed hmethM hstat
  obtain ⟨kP, hkP, -⟩ := className_of_methodNamed hnamed
  have hinitP : kP.init = .initialized := Cond.initialized_spec (findClass_of_methodNamed hnamed) hkP hinit
  obtain ⟨vm₁, X₁, hstep₁⟩ := X.invokestatic hexec hown hlink hnamed hmethM hstatic hkP hinitP hy (g := g) hg (argsL := argsL) (rest := rest) (hlen _ hsigM) hstack hdg
  rcases hK m meth c ⟨T.setVm vm₁, locs, cells, slots⟩ { g with stack := rest } (.invokestatic index) mk argsL.toArray X₁ hg hsize hdg hW (X₁.named hnamed) (hpre vm₁ X₁.warmed) with ⟨v, B, X', hpost, hsteps⟩ | ⟨q, B, X', hpost, hsteps⟩
  · exact Or.inl ⟨v, vm₁, B, X₁.warmed, X', hpost, fun target h => hstep₁ _ fun acts => by rw [doInvoke_state]; exact hsteps.trans h⟩
  · exact Or.inr ⟨q, vm₁, B, X₁.warmed, X', hpost, hstep₁ _ fun acts => by rw [doInvoke_state]; exact hsteps⟩
theorem vx_callVW (X : Stand p l e R s m args below meth c T locs cells slots) (hexec : p.tables.exec = Jvm.exec) {own C : String} {index : Nat} {y : MethodName} {bytes : ByteArray} {maxL : Nat} {ret : Option FieldType} {hh : List (Nat × Nat × Nat × Nat)}
    (hown : s.vm.findClass own = some m.cls) (hlink : (Cond.methodLink own index y).before args s = true) (hinst : (Cond.instanceMethod y).before args s = true) (hsel : (Cond.selects C y y).before args s = true)
    (hcode : (Cond.codeWith y bytes maxL ret hh).before args s = true) (hy : y.cls ≠ "java/lang/invoke/MethodHandle" ∧ y.cls ≠ "java/lang/invoke/VarHandle")
    {W9 : Nat} {Pre : Pt → Array Value → Prop} {Post : Pt → Array Value → Option Value → Pt → Prop} (hK : Back l R p e below s args y 3 W9 Pre Post)
    {b : Addr} {cellB : Cell} (hcell : T.heap[b]? = some cellB) (hobj : cellB.vm.isStatics = false) (hcls : s.vm.findClass C = some cellB.cls)
    {g : JFrame} (hg : g.method = m) (hsize : g.locals.size = c.maxLocals) {argsL rest : List Value} (hlen : ∀ sig, parseMethodDescriptor y.desc = some sig → argsL.length = sig.parameters.length)
    (hstack : g.stack = argsL.reverse ++ .ref b :: rest) (hW : 2 * g.monitorRoom + (rest.map fun v => v.category).sum ≤ W9) (hdg : decode c.code g.pc = .ok (.invokevirtual index, 3))
    (hpre : ∀ vm₁, s.WarmedH vm₁ → Pre ⟨T.setVm vm₁, locs, cells, slots⟩ (Value.ref b :: argsL).toArray) :
    ∃ (v : Option Value) (vm₁ : Vm) (B : Pt), s.WarmedH vm₁ ∧ Stand p l e R s m args below meth c B.U B.locs B.cells B.slots ∧ Post ⟨T.setVm vm₁, locs, cells, slots⟩ (Value.ref b :: argsL).toArray v B ∧
      ∀ target, Steps p.tables e below (B.U.setTop { g with pc := g.pc + 3, stack := v.toList ++ rest }) target → Steps p.tables e below (T.setTop g) target := by
  obtain ⟨mk, methM, hnamed, hmethM, hstM, habM⟩ := Cond.instanceMethod_spec hinst
  obtain ⟨m8, methM', cM, hn8, hmethM', -, -, -, -, -, -, hsigM⟩ := Cond.codeWith_spec hcode
  cases Option.some.inj (hn8.symm.trans hnamed)
  cases hmethM.symm.trans hmethM'
  obtain ⟨c2, r2, m2, q1, q2, q3, q4, kP, hkP, hkPi⟩ := Cond.selects_spec hsel
  cases hcls.symm.trans q1
  cases (State.methodFound?_of_named hnamed hy).symm.trans q2
  cases hnamed.symm.trans q3
  have hselP : selectMethod e.platform s.vm cellB.cls mk = .method mk := by rw [Launch.admits_selectMethod X.admits]; exact q4
  obtain ⟨vm₁, X₁, hstep₁⟩ := X.invokevirtual hexec hown hlink hnamed hmethM hstM hkP hkPi hy (a := b) (cell := cellB) hcell
    (fun z h => by rw [h] at hobj; cases hobj) hselP hmethM habM hkP hkPi (g := g) hg (argsL := argsL) (rest := rest) (hlen _ hsigM) hstack hdg
  obtain ⟨v, B, X', hpost, hsteps⟩ := hK m meth c ⟨T.setVm vm₁, locs, cells, slots⟩ { g with stack := rest } (.invokevirtual index) mk (Value.ref b :: argsL).toArray X₁ hg hsize hdg hW (X₁.named hnamed) (hpre vm₁ X₁.warmed)
  exact ⟨v, vm₁, B, X₁.warmed, X', hpost, fun target h => hstep₁ _ fun acts => by rw [doInvoke_state]; exact hsteps.trans h⟩
abbrev vx_CVW (R : Room) (s : State) (args : Array Value) (own C : String) (index : Nat) (y : MethodName) (bytes : ByteArray) (maxL : Nat) (ret : Option FieldType) (hh : List (Nat × Nat × Nat × Nat)) (ws : List Cond) (rm : Room) (mc ms n : Nat) : Prop :=
  (rm.cells = mc ∧ rm.slots = ms ∧ rm.frames + 1 ≤ R.frames ∧ 8 + (maxL + 11) + rm.locals ≤ R.locals ∧ (∀ w ∈ ws, ∀ (a' : Array Value) (U : State), s.WarmedH U.vm → w.before a' U = true) ∧ Cond.codeWith y bytes maxL ret hh ∈ ws) ∧
  (Cond.codeWith y bytes maxL ret hh).before args s = true ∧ (Cond.initialized y.cls).before args s = true ∧ (y.cls ≠ "java/lang/invoke/MethodHandle" ∧ y.cls ≠ "java/lang/invoke/VarHandle") ∧
  (∀ sig, parseMethodDescriptor y.desc = some sig → n = sig.parameters.length) ∧ (Cond.methodLink own index y).before args s = true ∧ (Cond.instanceMethod y).before args s = true ∧ (Cond.selects C y y).before args s = true
theorem vx_cwVW {own C : String} {index maxL mc ms : Nat} {y : MethodName} {bytes : ByteArray} {ret : Option FieldType} {hh : List (Nat × Nat × Nat × Nat)} {Ts ws ws' : List Cond} {rm : Room} (n : Nat) (ht : ∀ w ∈ Ts, w.before args s = true) (hT : GoodIn Ts (wsV own index C y ws)) (hw : ws = Cond.codeWith y bytes maxL ret hh :: ws') (hrc : rm.cells = mc) (hrs : rm.slots = ms)
    (hd : y.cls = C ∧ y.cls ≠ "java/lang/invoke/MethodHandle" ∧ y.cls ≠ "java/lang/invoke/VarHandle" ∧ (parseMethodDescriptor y.desc).map (fun d => d.parameters.length) = some n) (hR : rm.frames + 1 ≤ R.frames ∧ 8 + (maxL + 11) + rm.locals ≤ R.locals) :
    vx_CVW R s args own C index y bytes maxL ret hh ws rm mc ms n := by
  obtain ⟨hC, hd⟩ := hd
  subst hC
  have ok : ∀ w ∈ wsV own index y.cls y ws, w.before args s = true := fun w h => ht w (hT w h).1
  have hG : GoodIn Ts ws := fun w h => hT w (by unfold wsV; exact List.mem_append_right _ h)
  have hc : Cond.codeWith y bytes maxL ret hh ∈ ws := by rw [hw]; exact List.mem_cons_self
  refine ⟨⟨hrc, hrs, hR.1, hR.2, pay_in ht hG, hc⟩, ht _ (hG _ hc).1, ok _ (by simp [wsV]), ⟨hd.1, hd.2.1⟩, fun sig h => ?_, ok _ (by simp [wsV]), ok _ (by simp [wsV]), ok _ (by simp [wsV])⟩
  have h2 := hd.2.2
  rw [h] at h2
  exact (Option.some.inj h2).symm
theorem vx_runVW {y : MethodName} {bytes cc : ByteArray} {maxL nL mc ms n index : Nat} {ret : Option FieldType} {hh : List (Nat × Nat × Nat × Nat)} {ws : List Cond} {rm : Room} {Pc : Array Value → State → Prop} {Qc : Array Value → State → Outcome → State → Prop} {free : Addr → Prop} {Ts : List Cond} {own C : String} {b : Addr} {As rest : List Value} {g : JFrame}
    (S : CallFix p m c cc nL s args Ts own) (hM : Met l y ws rm Pc Qc mc ms free) (cw : vx_CVW R s args own C index y bytes maxL ret hh ws rm mc ms n) (hp : PreV s H C b Pc As)
    (hg : g.method = m) (hn : As.length = n) (hsize : g.locals.size = nL) (hstack : g.stack = As.reverse ++ .ref b :: rest) (hW : 2 * g.monitorRoom + (rest.map fun v => v.category).sum ≤ 8) (hdg : decode cc g.pc = .ok (.invokevirtual index, 3)) (hf : cells + mc ≤ R.cells ∧ slots + ms ≤ R.slots) :
    va_Run p l e R s m args below meth c H locs cells slots mc ms g rest (Qc (Value.ref b :: As).toArray) free := by
  obtain ⟨⟨hrc, hrs, hfr, hlo, hws, hcw⟩, hcode, hini, hy, hlen, hl, hin, hse⟩ := cw
  have hK : Back l R p e below s args y 3 8 (PreOf R mc ms Pc) (PostOf Qc mc ms free) := va_backW (hh := hh) (bytes := bytes) (maxL := maxL) (ret := ret) hM hp.1 hrc hrs hfr hlo hws hcw (fun a' U hW => word_at hW (Or.inl (by first | rfl | simp [Cond.onTables, Cond.keeps, Cond.steady])) hini)
  obtain ⟨hx, hb, hml, ho, -⟩ := S
  obtain ⟨-, ⟨cellB, hcB, hoB, hclB⟩, hPc⟩ := hp
  intro T hT X
  obtain ⟨v, vm₁, ⟨U', l2, c2, s2⟩, hW₁, X', ⟨g', mk, t, L, e1, e2, hq, h1, hL, h2, h3⟩, st⟩ := vx_callVW X hx (C := C) (hh := hh) (bytes := bytes) (maxL := maxL) (ret := ret) ho hl hin hse hcode hy hK (by rw [hT]; exact hcB) hoB hclB hg (hsize.trans hml.symm) (argsL := As) (rest := rest) (fun sig h => hn.trans (hlen sig h)) hstack hW (by rw [hb]; exact hdg)
    (fun vm₁ hW₁ => ⟨hf.1, hf.2, hPc (T.setVm vm₁) hT hW₁⟩)
  dsimp only [Pt.U, Pt.locs, Pt.cells, Pt.slots] at X' e1 e2 h1 h2 h3 st
  subst h1; subst h2; subst h3
  exact ⟨v, (T.setVm vm₁).calling g' mk (Value.ref b :: As).toArray, t, U', L, hT, X', hL, e1, e2, hq, st⟩
section
variable {y : MethodName} {bytes cc : ByteArray} {maxL nL mc ms n index : Nat} {ret : Option FieldType} {ws : List Cond} {rm : Room} {Pc : Array Value → State → Prop} {Qc : Array Value → State → Outcome → State → Prop} {XC : String → State → State → Prop} {free : Addr → Prop} {Ts : List Cond} {own C : String} {b : Addr} {As rest : List Value} {g : JFrame}
theorem vx_runVX {hh : List (Nat × Nat × Nat × Nat)} (S : CallFix p m c cc nL s args Ts own) (hM : vx_Met l y ws rm Pc Qc XC mc ms free) (cw : vx_CVW R s args own C index y bytes maxL ret hh ws rm mc ms n) (hp : PreV s H C b Pc As)
    (hg : g.method = m) (hn : As.length = n) (hsize : g.locals.size = nL) (hstack : g.stack = As.reverse ++ .ref b :: rest) (hW : 2 * g.monitorRoom + (rest.map fun v => v.category).sum ≤ 8) (hdg : decode cc g.pc = .ok (.invokevirtual index, 3)) (hf : cells + mc ≤ R.cells ∧ slots + ms ≤ R.slots) :
    vx_Run p l e R s m args below meth c H locs cells slots mc ms g rest (Qc (Value.ref b :: As).toArray) XC free := by
  obtain ⟨⟨hrc, hrs, hfr, hlo, hws, hcw⟩, hcode, hini, hy, hlen, hl, hin, hse⟩ := cw
  have hK : vx_Back l R p e below s args y 3 8 (PreOf R mc ms Pc) (PostOf Qc mc ms free) (vx_Post XC mc ms free) := vx_backW (hh := hh) (bytes := bytes) (maxL := maxL) (ret := ret) hM hp.1 hrc hrs hfr hlo hws hcw (fun a' U hW => word_at hW (Or.inl (by first | rfl | simp [Cond.onTables, Cond.keeps, Cond.steady])) hini)
  obtain ⟨hx, hb, hml, ho, -⟩ := S
  obtain ⟨-, ⟨cellB, hcB, hoB, hclB⟩, hPc⟩ := hp
  intro T hT X
  rcases vx_callVX X hx (C := C) (hh := hh) (bytes := bytes) (maxL := maxL) (ret := ret) ho hl hin hse hcode hy hK (by rw [hT]; exact hcB) hoB hclB hg (hsize.trans hml.symm) (argsL := As) (rest := rest) (fun sig h => hn.trans (hlen sig h)) hstack hW (by rw [hb]; exact hdg)
    (fun vm₁ hW₁ => ⟨hf.1, hf.2, hPc (T.setVm vm₁) hT hW₁⟩) with ⟨v, vm₁, ⟨U', l2, c2, s2⟩, hW₁, X', ⟨g', mk, t, L, e1, e2, hq, h1, hL, h2, h3⟩, st⟩ | ⟨q, vm₁, ⟨U', l2, c2, s2⟩, hW₁, X', ⟨g', mk, t, L, E, ce, e1, e2, hq, hce, hcv, hcl, h1, hL, h2, h3⟩, st⟩
  · dsimp only [Pt.U, Pt.locs, Pt.cells, Pt.slots] at X' e1 e2 h1 h2 h3 st
    subst h1; subst h2; subst h3
    exact Or.inl ⟨v, (T.setVm vm₁).calling g' mk (Value.ref b :: As).toArray, t, U', L, hT, X', hL, e1, e2, hq, st⟩
  · dsimp only [Pt.U, Pt.locs, Pt.cells, Pt.slots] at X' e1 e2 h1 h2 h3 st hcl
    subst h1; subst h2; subst h3
    exact Or.inr ⟨q, (T.setVm vm₁).calling g' mk (Value.ref b :: As).toArray, t, U', L, E, ce, hT, X', hL, e1, e2, hq, hce, hcv, vx_cls hW₁ hcl, st⟩
theorem vx_runSX {hh : List (Nat × Nat × Nat × Nat)} (S : CallFix p m c cc nL s args Ts own) (hM : vx_Met l y ws rm Pc Qc XC mc ms free) (cw : vx_CSW R s args own index y bytes maxL ret hh ws rm mc ms n) (hp : PreS s H Pc As)
    (hg : g.method = m) (hn : As.length = n) (hsize : g.locals.size = nL) (hstack : g.stack = As.reverse ++ rest) (hW : 2 * g.monitorRoom + (rest.map fun v => v.category).sum ≤ 8) (hdg : decode cc g.pc = .ok (.invokestatic index, 3)) (hf : cells + mc ≤ R.cells ∧ slots + ms ≤ R.slots) :
    vx_Run p l e R s m args below meth c H locs cells slots mc ms g rest (Qc As.toArray) XC free := by
  obtain ⟨⟨hrc, hrs, hfr, hlo, hws, hcw⟩, hcode, hini, hy, hlen, hl, hstt⟩ := cw
  have hK : vx_Back l R p e below s args y 3 8 (PreOf R mc ms Pc) (PostOf Qc mc ms free) (vx_Post XC mc ms free) := vx_backW (hh := hh) (bytes := bytes) (maxL := maxL) (ret := ret) hM hp.1 hrc hrs hfr hlo hws hcw (fun a' U hW => word_at hW (Or.inl (by first | rfl | simp [Cond.onTables, Cond.keeps, Cond.steady])) hini)
  obtain ⟨hx, hb, hml, ho, -⟩ := S
  intro T hT X
  rcases vx_callSX X hx (hh := hh) (bytes := bytes) (maxL := maxL) (ret := ret) ho hl hstt hini hcode hy hK hg (hsize.trans hml.symm) (argsL := As) (rest := rest) (fun sig h => hn.trans (hlen sig h)) hstack hW (by rw [hb]; exact hdg)
    (fun vm₁ hW₁ => ⟨hf.1, hf.2, hp.2 (T.setVm vm₁) hT hW₁⟩) with ⟨v, vm₁, ⟨U', l2, c2, s2⟩, hW₁, X', ⟨g', mk, t, L, e1, e2, hq, h1, hL, h2, h3⟩, st⟩ | ⟨q, vm₁, ⟨U', l2, c2, s2⟩, hW₁, X', ⟨g', mk, t, L, E, ce, e1, e2, hq, hce, hcv, hcl, h1, hL, h2, h3⟩, st⟩
  · dsimp only [Pt.U, Pt.locs, Pt.cells, Pt.slots] at X' e1 e2 h1 h2 h3 st
    subst h1; subst h2; subst h3
    exact Or.inl ⟨v, (T.setVm vm₁).calling g' mk As.toArray, t, U', L, hT, X', hL, e1, e2, hq, st⟩
  · dsimp only [Pt.U, Pt.locs, Pt.cells, Pt.slots] at X' e1 e2 h1 h2 h3 st hcl
    subst h1; subst h2; subst h3
    exact Or.inr ⟨q, (T.setVm vm₁).calling g' mk As.toArray, t, U', L, E, ce, hT, X', hL, e1, e2, hq, hce, hcv, vx_cls hW₁ hcl, st⟩
end
end VXH
theorem vx_ofWH {l : Launch} {y : MethodName} {ws ws' : List Cond} {rm : Room} {Pc : Array Value → State → Prop} {Qc : Array Value → State → Outcome → State → Prop} {XC : String → State → State → Prop} {mc ms : Nat} {free : Addr → Prop} {cc : ByteArray} {maxL : Nat} {ret : Option FieldType} {hh : List (Nat × Nat × Nat × Nat)}
    (hy : plainName y.cls = true) (hw : ws = Cond.codeWith y cc maxL ret hh :: ws')
    (body : ∀ p e s m args below meth c s₁, BodyLoose p l y (headSpec ws rm) cc maxL ret e s m args below meth c s₁ → c.maxLocals = maxL → Pc args s →
      W p l e (headSpec ws rm).room s m args below meth c s.heap [] 0 0 (vx_MQ below Qc XC args s mc ms free) (entryFrame m args maxL)) : vx_Met l y ws rm Pc Qc XC mc ms free := by
  refine MetFree.of_bodyS (code := cc) (maxLocals := maxL) (ret := ret) hy ?_ ?_
  · intro args s m h hn
    obtain ⟨m9, meth, c, hn9, h1, h2, h3, h4, -, h5, h6, -⟩ := Cond.codeWith_spec (atoms_spec (ws := ws) h _ (by rw [hw]; exact List.mem_cons_self))
    cases hn.symm.trans hn9
    exact ⟨meth, c, h1, h2, h3, h4, h5, h6⟩
  · intro p e s m args below meth c s₁ B hml hP _
    have hh0 : s₁.heap = s.heap := by rw [B.state]; rfl
    obtain ⟨t, a1, o, b1, b2, b3⟩ := body p e s m args below meth c s₁ B hml hP s₁ hh0 (Stand.of_body B)
    exact ⟨t, o, a1, b1, b2, b3⟩
/-! ===== END ===== -/
end
section
def RX0 : String := "KeepForget$Dates"
def TX0 : u_T := fun k => match k with
  | _ => ("", "", "", false)
def tyX0 : Nat → FieldType := fun k => match k with
  | _ => .int
abbrev wsX00 : List Cond := u_ws RX0 TX0 0
theorem nmX0 : ∀ a, a < 0 → ∀ b, b < 0 → a ≠ b → (TX0 a).2.1 ≠ (TX0 b).2.1 := by decide +kernel
theorem tyX0_ok : ∀ k, k < 0 → parseFieldDescriptor (TX0 k).2.2.1 = some (tyX0 k) := by decide +kernel
abbrev cX0_monthStart : ByteArray := prog_2_method_2_code
def yX0_monthStart : MethodName := ⟨RX0, "monthStart", "(I)I"⟩
abbrev cX0_monthLength : ByteArray := prog_2_method_3_code
def yX0_monthLength : MethodName := ⟨RX0, "monthLength", "(I)I"⟩
abbrev cX0_monthOf : ByteArray := prog_2_method_4_code
def yX0_monthOf : MethodName := ⟨RX0, "monthOf", "(I)I"⟩
abbrev cX0_monthsAfter : ByteArray := prog_2_method_5_code
def yX0_monthsAfter : MethodName := ⟨RX0, "monthsAfter", "(II)I"⟩
def RX1 : String := "KeepForget$Hold"
def TX1 : u_T := fun k => match k with
  | 0 => ("KeepForget$Hold", "thing", "LKeepForget$Thing;", true)
  | 1 => ("KeepForget$Hold", "fields", "I", true)
  | _ => ("KeepForget$Hold", "isLifted", "Z", false)
def tyX1 : Nat → FieldType := fun k => match k with
  | 0 => .object "KeepForget$Thing"
  | 1 => .int
  | _ => .boolean
abbrev wsX10 : List Cond := u_ws RX1 TX1 3
theorem nmX1 : ∀ a, a < 3 → ∀ b, b < 3 → a ≠ b → (TX1 a).2.1 ≠ (TX1 b).2.1 := by decide +kernel
theorem tyX1_ok : ∀ k, k < 3 → parseFieldDescriptor (TX1 k).2.2.1 = some (tyX1 k) := by decide +kernel
abbrev cX1_init : ByteArray := prog_3_method_1_code
def yX1_init : MethodName := ⟨RX1, "<init>", "(LKeepForget$Thing;I)V"⟩
def RX2 : String := "KeepForget$Log"
def TX2 : u_T := fun k => match k with
  | 0 => ("KeepForget$Log", "parts", "[I", true)
  | 1 => ("KeepForget$Log", "lineCount", "I", false)
  | _ => ("KeepForget$Log", "lateCount", "I", false)
def tyX2 : Nat → FieldType := fun k => match k with
  | 0 => .array .int
  | 1 => .int
  | _ => .int
abbrev wsX20 : List Cond := u_ws RX2 TX2 3
theorem nmX2 : ∀ a, a < 3 → ∀ b, b < 3 → a ≠ b → (TX2 a).2.1 ≠ (TX2 b).2.1 := by decide +kernel
theorem tyX2_ok : ∀ k, k < 3 → parseFieldDescriptor (TX2 k).2.2.1 = some (tyX2 k) := by decide +kernel
abbrev cX2_init : ByteArray := prog_4_method_1_code
def yX2_init : MethodName := ⟨RX2, "<init>", "()V"⟩
abbrev cX2_add : ByteArray := prog_4_method_2_code
def yX2_add : MethodName := ⟨RX2, "add", "(IIIILKeepForget$Span;)V"⟩
def RX3 : String := "KeepForget$Rule"
def TX3 : u_T := fun k => match k with
  | 0 => ("KeepForget$Rule", "sort", "I", true)
  | 1 => ("KeepForget$Rule", "kinds", "I", false)
  | 2 => ("KeepForget$Rule", "fields", "I", false)
  | 3 => ("KeepForget$Rule", "stores", "I", false)
  | 4 => ("KeepForget$Rule", "amount", "I", false)
  | 5 => ("KeepForget$Rule", "unitMonths", "I", false)
  | 6 => ("KeepForget$Rule", "event", "I", false)
  | 7 => ("KeepForget$Rule", "rank", "I", false)
  | 8 => ("KeepForget$Rule", "testCount", "I", false)
  | 9 => ("KeepForget$Rule", "testFacts", "[I", true)
  | 10 => ("KeepForget$Rule", "testIsLess", "[Z", true)
  | _ => ("KeepForget$Rule", "testNumbers", "[I", true)
def tyX3 : Nat → FieldType := fun k => match k with
  | 0 => .int
  | 1 => .int
  | 2 => .int
  | 3 => .int
  | 4 => .int
  | 5 => .int
  | 6 => .int
  | 7 => .int
  | 8 => .int
  | 9 => .array .int
  | 10 => .array .boolean
  | _ => .array .int
abbrev wsX30 : List Cond := u_ws RX3 TX3 12
theorem nmX3 : ∀ a, a < 12 → ∀ b, b < 12 → a ≠ b → (TX3 a).2.1 ≠ (TX3 b).2.1 := by decide +kernel
theorem tyX3_ok : ∀ k, k < 12 → parseFieldDescriptor (TX3 k).2.2.1 = some (tyX3 k) := by decide +kernel
abbrev cX3_init : ByteArray := prog_5_method_1_code
def yX3_init : MethodName := ⟨RX3, "<init>", "(I)V"⟩
abbrev cX3_isFor : ByteArray := prog_5_method_2_code
def yX3_isFor : MethodName := ⟨RX3, "isFor", "(LKeepForget$Thing;I)Z"⟩
abbrev cX3_dayFor : ByteArray := prog_5_method_3_code
def yX3_dayFor : MethodName := ⟨RX3, "dayFor", "(LKeepForget$Thing;)I"⟩
def RX4 : String := "KeepForget$RuleReader"
def TX4 : u_T := fun k => match k with
  | 0 => ("KeepForget$RuleReader", "text", "[B", true)
  | 1 => ("KeepForget$RuleReader", "length", "I", true)
  | 2 => ("KeepForget$RuleReader", "token", "I", false)
  | 3 => ("KeepForget$RuleReader", "start", "I", false)
  | 4 => ("KeepForget$RuleReader", "end", "I", false)
  | 5 => ("KeepForget$RuleReader", "fault", "I", false)
  | _ => ("KeepForget$RuleReader", "faultPlace", "I", false)
def tyX4 : Nat → FieldType := fun k => match k with
  | 0 => .array .byte
  | 1 => .int
  | 2 => .int
  | 3 => .int
  | 4 => .int
  | 5 => .int
  | _ => .int
abbrev wsX40 : List Cond := u_ws RX4 TX4 7
theorem nmX4 : ∀ a, a < 7 → ∀ b, b < 7 → a ≠ b → (TX4 a).2.1 ≠ (TX4 b).2.1 := by decide +kernel
theorem tyX4_ok : ∀ k, k < 7 → parseFieldDescriptor (TX4 k).2.2.1 = some (tyX4 k) := by decide +kernel
abbrev cX4_init : ByteArray := prog_6_method_1_code
def yX4_init : MethodName := ⟨RX4, "<init>", "([BI)V"⟩
abbrev cX4_readInto : ByteArray := prog_6_method_2_code
def yX4_readInto : MethodName := ⟨RX4, "readInto", "(LKeepForget$RuleSet;)V"⟩
abbrev cX4_readRule : ByteArray := prog_6_method_3_code
def yX4_readRule : MethodName := ⟨RX4, "readRule", "(LKeepForget$RuleSet;)Z"⟩
abbrev cX4_ruleSort : ByteArray := prog_6_method_4_code
def yX4_ruleSort : MethodName := ⟨RX4, "ruleSort", "()I"⟩
abbrev cX4_readWhat : ByteArray := prog_6_method_5_code
def yX4_readWhat : MethodName := ⟨RX4, "readWhat", "(LKeepForget$Rule;)Z"⟩
abbrev cX4_readTime : ByteArray := prog_6_method_6_code
def yX4_readTime : MethodName := ⟨RX4, "readTime", "(LKeepForget$Rule;)Z"⟩
abbrev cX4_readStores : ByteArray := prog_6_method_7_code
def yX4_readStores : MethodName := ⟨RX4, "readStores", "(LKeepForget$Rule;)Z"⟩
abbrev cX4_readTests : ByteArray := prog_6_method_8_code
def yX4_readTests : MethodName := ⟨RX4, "readTests", "(LKeepForget$Rule;)Z"⟩
abbrev cX4_readTest : ByteArray := prog_6_method_9_code
def yX4_readTest : MethodName := ⟨RX4, "readTest", "(LKeepForget$Rule;)Z"⟩
abbrev cX4_readRank : ByteArray := prog_6_method_10_code
def yX4_readRank : MethodName := ⟨RX4, "readRank", "(LKeepForget$Rule;)Z"⟩
abbrev cX4_checkNumber : ByteArray := prog_6_method_11_code
def yX4_checkNumber : MethodName := ⟨RX4, "checkNumber", "()Z"⟩
abbrev cX4_number : ByteArray := prog_6_method_12_code
def yX4_number : MethodName := ⟨RX4, "number", "()I"⟩
abbrev cX4_fail : ByteArray := prog_6_method_13_code
def yX4_fail : MethodName := ⟨RX4, "fail", "(I)Z"⟩
abbrev cX4_isWord : ByteArray := prog_6_method_14_code
def yX4_isWord : MethodName := ⟨RX4, "isWord", "(Ljava/lang/String;)Z"⟩
abbrev cX4_isSign : ByteArray := prog_6_method_15_code
def yX4_isSign : MethodName := ⟨RX4, "isSign", "(C)Z"⟩
abbrev cX4_numbered : ByteArray := prog_6_method_16_code
def yX4_numbered : MethodName := ⟨RX4, "numbered", "(CI)I"⟩
abbrev cX4_bitOf : ByteArray := prog_6_method_17_code
def yX4_bitOf : MethodName := ⟨RX4, "bitOf", "(CI)I"⟩
abbrev cX4_next : ByteArray := prog_6_method_18_code
def yX4_next : MethodName := ⟨RX4, "next", "()V"⟩
abbrev cX4_isLetter : ByteArray := prog_6_method_19_code
def yX4_isLetter : MethodName := ⟨RX4, "isLetter", "(I)Z"⟩
abbrev cX4_isDigit : ByteArray := prog_6_method_20_code
def yX4_isDigit : MethodName := ⟨RX4, "isDigit", "(I)Z"⟩
def RX5 : String := "KeepForget$RuleSet"
def TX5 : u_T := fun k => match k with
  | 0 => ("KeepForget$RuleSet", "day", "I", true)
  | 1 => ("KeepForget$RuleSet", "rules", "[LKeepForget$Rule;", true)
  | 2 => ("KeepForget$RuleSet", "ruleCount", "I", false)
  | 3 => ("KeepForget$RuleSet", "turns", "[I", true)
  | _ => ("KeepForget$RuleSet", "turnCount", "I", false)
def tyX5 : Nat → FieldType := fun k => match k with
  | 0 => .int
  | 1 => .array (.object "KeepForget$Rule")
  | 2 => .int
  | 3 => .array .int
  | _ => .int
abbrev wsX50 : List Cond := u_ws RX5 TX5 5
theorem nmX5 : ∀ a, a < 5 → ∀ b, b < 5 → a ≠ b → (TX5 a).2.1 ≠ (TX5 b).2.1 := by decide +kernel
theorem tyX5_ok : ∀ k, k < 5 → parseFieldDescriptor (TX5 k).2.2.1 = some (tyX5 k) := by decide +kernel
abbrev cX5_init : ByteArray := prog_7_method_1_code
def yX5_init : MethodName := ⟨RX5, "<init>", "(I)V"⟩
abbrev cX5_isFull : ByteArray := prog_7_method_2_code
def yX5_isFull : MethodName := ⟨RX5, "isFull", "()Z"⟩
abbrev cX5_add : ByteArray := prog_7_method_3_code
def yX5_add : MethodName := ⟨RX5, "add", "(LKeepForget$Rule;)V"⟩
abbrev cX5_putInTurn : ByteArray := prog_7_method_4_code
def yX5_putInTurn : MethodName := ⟨RX5, "putInTurn", "(II)V"⟩
abbrev cX5_storesFor : ByteArray := prog_7_method_5_code
def yX5_storesFor : MethodName := ⟨RX5, "storesFor", "(LKeepForget$Thing;I)I"⟩
def RX6 : String := "KeepForget$Span"
def TX6 : u_T := fun k => match k with
  | 0 => ("KeepForget$Span", "from", "I", false)
  | 1 => ("KeepForget$Span", "to", "I", false)
  | 2 => ("KeepForget$Span", "fromRule", "I", false)
  | 3 => ("KeepForget$Span", "toRule", "I", false)
  | 4 => ("KeepForget$Span", "lostRules", "[I", true)
  | 5 => ("KeepForget$Span", "lostCount", "I", false)
  | 6 => ("KeepForget$Span", "isHeld", "Z", false)
  | _ => ("KeepForget$Span", "isWished", "Z", false)
def tyX6 : Nat → FieldType := fun k => match k with
  | 0 => .int
  | 1 => .int
  | 2 => .int
  | 3 => .int
  | 4 => .array .int
  | 5 => .int
  | 6 => .boolean
  | _ => .boolean
abbrev wsX60 : List Cond := u_ws RX6 TX6 8
theorem nmX6 : ∀ a, a < 8 → ∀ b, b < 8 → a ≠ b → (TX6 a).2.1 ≠ (TX6 b).2.1 := by decide +kernel
theorem tyX6_ok : ∀ k, k < 8 → parseFieldDescriptor (TX6 k).2.2.1 = some (tyX6 k) := by decide +kernel
abbrev cX6_init : ByteArray := prog_8_method_1_code
def yX6_init : MethodName := ⟨RX6, "<init>", "()V"⟩
abbrev cX6_settle : ByteArray := prog_8_method_2_code
def yX6_settle : MethodName := ⟨RX6, "settle", "(LKeepForget$Thing;ILKeepForget$RuleSet;)V"⟩
abbrev cX6_take : ByteArray := prog_8_method_3_code
def yX6_take : MethodName := ⟨RX6, "take", "(III)V"⟩
abbrev cX6_keepUntil : ByteArray := prog_8_method_4_code
def yX6_keepUntil : MethodName := ⟨RX6, "keepUntil", "(II)V"⟩
abbrev cX6_endAt : ByteArray := prog_8_method_5_code
def yX6_endAt : MethodName := ⟨RX6, "endAt", "(II)V"⟩
abbrev cX6_lose : ByteArray := prog_8_method_6_code
def yX6_lose : MethodName := ⟨RX6, "lose", "(I)V"⟩
abbrev cX6_isDue : ByteArray := prog_8_method_7_code
def yX6_isDue : MethodName := ⟨RX6, "isDue", "(I)Z"⟩
def RX7 : String := "KeepForget$Sweeper"
def TX7 : u_T := fun k => match k with
  | 0 => ("KeepForget$Sweeper", "every", "I", false)
  | _ => ("KeepForget$Sweeper", "first", "I", false)
def tyX7 : Nat → FieldType := fun k => match k with
  | 0 => .int
  | _ => .int
abbrev wsX70 : List Cond := u_ws RX7 TX7 2
theorem nmX7 : ∀ a, a < 2 → ∀ b, b < 2 → a ≠ b → (TX7 a).2.1 ≠ (TX7 b).2.1 := by decide +kernel
theorem tyX7_ok : ∀ k, k < 2 → parseFieldDescriptor (TX7 k).2.2.1 = some (tyX7 k) := by decide +kernel
abbrev cX7_init : ByteArray := prog_9_method_1_code
def yX7_init : MethodName := ⟨RX7, "<init>", "()V"⟩
abbrev cX7_firstFrom : ByteArray := prog_9_method_2_code
def yX7_firstFrom : MethodName := ⟨RX7, "firstFrom", "(I)I"⟩
def RX8 : String := "KeepForget$Thing"
def TX8 : u_T := fun k => match k with
  | 0 => ("KeepForget$Thing", "kind", "I", true)
  | 1 => ("KeepForget$Thing", "facts", "[I", true)
  | 2 => ("KeepForget$Thing", "events", "[I", true)
  | 3 => ("KeepForget$Thing", "copies", "[I", true)
  | 4 => ("KeepForget$Thing", "held", "I", false)
  | _ => ("KeepForget$Thing", "isWished", "Z", false)
def tyX8 : Nat → FieldType := fun k => match k with
  | 0 => .int
  | 1 => .array .int
  | 2 => .array .int
  | 3 => .array .int
  | 4 => .int
  | _ => .boolean
abbrev wsX80 : List Cond := u_ws RX8 TX8 6
theorem nmX8 : ∀ a, a < 6 → ∀ b, b < 6 → a ≠ b → (TX8 a).2.1 ≠ (TX8 b).2.1 := by decide +kernel
theorem tyX8_ok : ∀ k, k < 6 → parseFieldDescriptor (TX8 k).2.2.1 = some (tyX8 k) := by decide +kernel
abbrev cX8_init : ByteArray := prog_10_method_1_code
def yX8_init : MethodName := ⟨RX8, "<init>", "(I)V"⟩
abbrev cX8_hasCopy : ByteArray := prog_10_method_2_code
def yX8_hasCopy : MethodName := ⟨RX8, "hasCopy", "(II)Z"⟩
def RX9 : String := "KeepForget"
def TX9 : u_T := fun k => match k with
  | 0 => ("KeepForget", "tape", "[B", true)
  | 1 => ("KeepForget", "tapeLength", "I", false)
  | 2 => ("KeepForget", "faultPlace", "I", false)
  | 3 => ("KeepForget", "sets", "[LKeepForget$RuleSet;", true)
  | 4 => ("KeepForget", "setCount", "I", false)
  | 5 => ("KeepForget", "things", "[LKeepForget$Thing;", true)
  | 6 => ("KeepForget", "thingCount", "I", false)
  | 7 => ("KeepForget", "sweepers", "[LKeepForget$Sweeper;", true)
  | 8 => ("KeepForget", "holds", "[LKeepForget$Hold;", true)
  | 9 => ("KeepForget", "holdCount", "I", false)
  | 10 => ("KeepForget", "log", "LKeepForget$Log;", true)
  | 11 => ("KeepForget", "settled", "LKeepForget$Span;", true)
  | _ => ("KeepForget", "now", "I", false)
def tyX9 : Nat → FieldType := fun k => match k with
  | 0 => .array .byte
  | 1 => .int
  | 2 => .int
  | 3 => .array (.object "KeepForget$RuleSet")
  | 4 => .int
  | 5 => .array (.object "KeepForget$Thing")
  | 6 => .int
  | 7 => .array (.object "KeepForget$Sweeper")
  | 8 => .array (.object "KeepForget$Hold")
  | 9 => .int
  | 10 => .object "KeepForget$Log"
  | 11 => .object "KeepForget$Span"
  | _ => .int
abbrev wsX90 : List Cond := u_ws RX9 TX9 13
theorem nmX9 : ∀ a, a < 13 → ∀ b, b < 13 → a ≠ b → (TX9 a).2.1 ≠ (TX9 b).2.1 := by decide +kernel
theorem tyX9_ok : ∀ k, k < 13 → parseFieldDescriptor (TX9 k).2.2.1 = some (tyX9 k) := by decide +kernel
abbrev cX9_init : ByteArray := prog_1_method_1_code
def yX9_init : MethodName := ⟨RX9, "<init>", "()V"⟩
abbrev cX9_day : ByteArray := prog_1_method_2_code
def yX9_day : MethodName := ⟨RX9, "day", "(III)I"⟩
abbrev cX9_date : ByteArray := prog_1_method_3_code
def yX9_date : MethodName := ⟨RX9, "date", "(II)I"⟩
abbrev cX9_later : ByteArray := prog_1_method_4_code
def yX9_later : MethodName := ⟨RX9, "later", "(II)I"⟩
abbrev cX9_feed : ByteArray := prog_1_method_5_code
def yX9_feed : MethodName := ⟨RX9, "feed", "(IIIII)I"⟩
abbrev cX9_rules : ByteArray := prog_1_method_6_code
def yX9_rules : MethodName := ⟨RX9, "rules", "(II)I"⟩
abbrev cX9_fault : ByteArray := prog_1_method_7_code
def yX9_fault : MethodName := ⟨RX9, "fault", "()I"⟩
abbrev cX9_thing : ByteArray := prog_1_method_8_code
def yX9_thing : MethodName := ⟨RX9, "thing", "(I)I"⟩
abbrev cX9_fact : ByteArray := prog_1_method_9_code
def yX9_fact : MethodName := ⟨RX9, "fact", "(III)I"⟩
abbrev cX9_event : ByteArray := prog_1_method_10_code
def yX9_event : MethodName := ⟨RX9, "event", "(III)I"⟩
abbrev cX9_copy : ByteArray := prog_1_method_11_code
def yX9_copy : MethodName := ⟨RX9, "copy", "(III)Z"⟩
abbrev cX9_copies : ByteArray := prog_1_method_12_code
def yX9_copies : MethodName := ⟨RX9, "copies", "(II)I"⟩
abbrev cX9_store : ByteArray := prog_1_method_13_code
def yX9_store : MethodName := ⟨RX9, "store", "(III)V"⟩
abbrev cX9_hold : ByteArray := prog_1_method_14_code
def yX9_hold : MethodName := ⟨RX9, "hold", "(II)I"⟩
abbrev cX9_lift : ByteArray := prog_1_method_15_code
def yX9_lift : MethodName := ⟨RX9, "lift", "(I)Z"⟩
abbrev cX9_wish : ByteArray := prog_1_method_16_code
def yX9_wish : MethodName := ⟨RX9, "wish", "(I)I"⟩
abbrev cX9_span : ByteArray := prog_1_method_17_code
def yX9_span : MethodName := ⟨RX9, "span", "(IIII)I"⟩
abbrev cX9_lost : ByteArray := prog_1_method_18_code
def yX9_lost : MethodName := ⟨RX9, "lost", "(IIII)I"⟩
abbrev cX9_why : ByteArray := prog_1_method_19_code
def yX9_why : MethodName := ⟨RX9, "why", "(II)I"⟩
abbrev cX9_places : ByteArray := prog_1_method_20_code
def yX9_places : MethodName := ⟨RX9, "places", "(II)I"⟩
abbrev cX9_misplaced : ByteArray := prog_1_method_21_code
def yX9_misplaced : MethodName := ⟨RX9, "misplaced", "()I"⟩
abbrev cX9_planned : ByteArray := prog_1_method_22_code
def yX9_planned : MethodName := ⟨RX9, "planned", "(III)I"⟩
abbrev cX9_differ : ByteArray := prog_1_method_23_code
def yX9_differ : MethodName := ⟨RX9, "differ", "(II)I"⟩
abbrev cX9_bites : ByteArray := prog_1_method_24_code
def yX9_bites : MethodName := ⟨RX9, "bites", "(II)Z"⟩
abbrev cX9_days : ByteArray := prog_1_method_25_code
def yX9_days : MethodName := ⟨RX9, "days", "(I)I"⟩
abbrev cX9_entry : ByteArray := prog_1_method_26_code
def yX9_entry : MethodName := ⟨RX9, "entry", "(II)I"⟩
abbrev cX9_count : ByteArray := prog_1_method_27_code
def yX9_count : MethodName := ⟨RX9, "count", "(I)I"⟩
abbrev cX9_checkDay : ByteArray := prog_1_method_28_code
def yX9_checkDay : MethodName := ⟨RX9, "checkDay", "(I)V"⟩
abbrev cX9_checkField : ByteArray := prog_1_method_29_code
def yX9_checkField : MethodName := ⟨RX9, "checkField", "(I)V"⟩
abbrev cX9_checkStore : ByteArray := prog_1_method_30_code
def yX9_checkStore : MethodName := ⟨RX9, "checkStore", "(I)V"⟩
abbrev cX9_thingAt : ByteArray := prog_1_method_31_code
def yX9_thingAt : MethodName := ⟨RX9, "thingAt", "(I)LKeepForget$Thing;"⟩
abbrev cX9_setAt : ByteArray := prog_1_method_32_code
def yX9_setAt : MethodName := ⟨RX9, "setAt", "(I)LKeepForget$RuleSet;"⟩
abbrev cX9_chosenSet : ByteArray := prog_1_method_33_code
def yX9_chosenSet : MethodName := ⟨RX9, "chosenSet", "(I)LKeepForget$RuleSet;"⟩
abbrev cX9_setInForce : ByteArray := prog_1_method_34_code
def yX9_setInForce : MethodName := ⟨RX9, "setInForce", "()LKeepForget$RuleSet;"⟩
abbrev cX9_numberInForce : ByteArray := prog_1_method_35_code
def yX9_numberInForce : MethodName := ⟨RX9, "numberInForce", "()I"⟩
abbrev cX9_putOnTape : ByteArray := prog_1_method_36_code
def yX9_putOnTape : MethodName := ⟨RX9, "putOnTape", "(I)V"⟩
abbrev cX9_placesOf : ByteArray := prog_1_method_37_code
def yX9_placesOf : MethodName := ⟨RX9, "placesOf", "(LKeepForget$Thing;I)I"⟩
abbrev cX9_heldFields : ByteArray := prog_1_method_38_code
def yX9_heldFields : MethodName := ⟨RX9, "heldFields", "(LKeepForget$Thing;)I"⟩
abbrev cX9_openHoldCount : ByteArray := prog_1_method_39_code
def yX9_openHoldCount : MethodName := ⟨RX9, "openHoldCount", "()I"⟩
abbrev cX9_copyCount : ByteArray := prog_1_method_40_code
def yX9_copyCount : MethodName := ⟨RX9, "copyCount", "()I"⟩
abbrev cX9_plannedDay : ByteArray := prog_1_method_41_code
def yX9_plannedDay : MethodName := ⟨RX9, "plannedDay", "(LKeepForget$Thing;IILKeepForget$RuleSet;)I"⟩
abbrev cX9_nextBusyDay : ByteArray := prog_1_method_42_code
def yX9_nextBusyDay : MethodName := ⟨RX9, "nextBusyDay", "(I)I"⟩
abbrev cX9_sweep : ByteArray := prog_1_method_43_code
def yX9_sweep : MethodName := ⟨RX9, "sweep", "(I)V"⟩
def RX10 : String := "KeepForgetModel"
def TX10 : u_T := fun k => match k with
  | 0 => ("KeepForgetModel", "code", "I", false)
  | 1 => ("KeepForgetModel", "now", "I", false)
  | 2 => ("KeepForgetModel", "things", "I", false)
  | 3 => ("KeepForgetModel", "sets", "I", false)
  | 4 => ("KeepForgetModel", "holds", "I", false)
  | 5 => ("KeepForgetModel", "logged", "I", false)
  | 6 => ("KeepForgetModel", "late", "I", false)
  | 7 => ("KeepForgetModel", "taped", "I", false)
  | 8 => ("KeepForgetModel", "faultPlace", "I", false)
  | 9 => ("KeepForgetModel", "kind", "[I", true)
  | 10 => ("KeepForgetModel", "fact", "[I", true)
  | 11 => ("KeepForgetModel", "event", "[I", true)
  | 12 => ("KeepForgetModel", "copyBits", "[I", true)
  | 13 => ("KeepForgetModel", "isWished", "[Z", true)
  | 14 => ("KeepForgetModel", "every", "[I", true)
  | 15 => ("KeepForgetModel", "first", "[I", true)
  | 16 => ("KeepForgetModel", "holdThing", "[I", true)
  | 17 => ("KeepForgetModel", "holdFields", "[I", true)
  | 18 => ("KeepForgetModel", "isLifted", "[Z", true)
  | 19 => ("KeepForgetModel", "logThing", "[I", true)
  | 20 => ("KeepForgetModel", "logField", "[I", true)
  | 21 => ("KeepForgetModel", "logStore", "[I", true)
  | 22 => ("KeepForgetModel", "logDay", "[I", true)
  | 23 => ("KeepForgetModel", "logRule", "[I", true)
  | 24 => ("KeepForgetModel", "setDay", "[I", true)
  | 25 => ("KeepForgetModel", "ruleMany", "[I", true)
  | 26 => ("KeepForgetModel", "what", "[I", true)
  | 27 => ("KeepForgetModel", "ofKind", "[I", true)
  | 28 => ("KeepForgetModel", "ofField", "[I", true)
  | 29 => ("KeepForgetModel", "long0", "[I", true)
  | 30 => ("KeepForgetModel", "unit", "[I", true)
  | 31 => ("KeepForgetModel", "from", "[I", true)
  | 32 => ("KeepForgetModel", "stores", "[I", true)
  | 33 => ("KeepForgetModel", "rank", "[I", true)
  | 34 => ("KeepForgetModel", "testMany", "[I", true)
  | 35 => ("KeepForgetModel", "testFact", "[I", true)
  | 36 => ("KeepForgetModel", "testNumber", "[I", true)
  | 37 => ("KeepForgetModel", "isLess", "[Z", true)
  | 38 => ("KeepForgetModel", "tape", "[I", true)
  | 39 => ("KeepForgetModel", "at", "I", false)
  | 40 => ("KeepForgetModel", "size", "I", false)
  | 41 => ("KeepForgetModel", "token", "I", false)
  | 42 => ("KeepForgetModel", "sign", "I", false)
  | 43 => ("KeepForgetModel", "begins", "I", false)
  | 44 => ("KeepForgetModel", "ends", "I", false)
  | 45 => ("KeepForgetModel", "bad", "I", false)
  | 46 => ("KeepForgetModel", "badPlace", "I", false)
  | 47 => ("KeepForgetModel", "rule", "I", false)
  | 48 => ("KeepForgetModel", "spanFrom", "I", false)
  | 49 => ("KeepForgetModel", "spanTo", "I", false)
  | 50 => ("KeepForgetModel", "byFrom", "I", false)
  | 51 => ("KeepForgetModel", "byTo", "I", false)
  | 52 => ("KeepForgetModel", "losts", "I", false)
  | 53 => ("KeepForgetModel", "lostRow", "[I", true)
  | 54 => ("KeepForgetModel", "keptSet", "I", false)
  | 55 => ("KeepForgetModel", "isKept", "[Z", true)
  | 56 => ("KeepForgetModel", "keptFrom", "[I", true)
  | 57 => ("KeepForgetModel", "keptTo", "[I", true)
  | 58 => ("KeepForgetModel", "keptBy", "[I", true)
  | _ => ("KeepForgetModel", "heldBits", "[I", true)
def tyX10 : Nat → FieldType := fun k => match k with
  | 0 => .int
  | 1 => .int
  | 2 => .int
  | 3 => .int
  | 4 => .int
  | 5 => .int
  | 6 => .int
  | 7 => .int
  | 8 => .int
  | 9 => .array .int
  | 10 => .array .int
  | 11 => .array .int
  | 12 => .array .int
  | 13 => .array .boolean
  | 14 => .array .int
  | 15 => .array .int
  | 16 => .array .int
  | 17 => .array .int
  | 18 => .array .boolean
  | 19 => .array .int
  | 20 => .array .int
  | 21 => .array .int
  | 22 => .array .int
  | 23 => .array .int
  | 24 => .array .int
  | 25 => .array .int
  | 26 => .array .int
  | 27 => .array .int
  | 28 => .array .int
  | 29 => .array .int
  | 30 => .array .int
  | 31 => .array .int
  | 32 => .array .int
  | 33 => .array .int
  | 34 => .array .int
  | 35 => .array .int
  | 36 => .array .int
  | 37 => .array .boolean
  | 38 => .array .int
  | 39 => .int
  | 40 => .int
  | 41 => .int
  | 42 => .int
  | 43 => .int
  | 44 => .int
  | 45 => .int
  | 46 => .int
  | 47 => .int
  | 48 => .int
  | 49 => .int
  | 50 => .int
  | 51 => .int
  | 52 => .int
  | 53 => .array .int
  | 54 => .int
  | 55 => .array .boolean
  | 56 => .array .int
  | 57 => .array .int
  | 58 => .array .int
  | _ => .array .int
abbrev wsX100 : List Cond := u_ws RX10 TX10 60
theorem nmX10 : ∀ a, a < 60 → ∀ b, b < 60 → a ≠ b → (TX10 a).2.1 ≠ (TX10 b).2.1 := by decide +kernel
theorem tyX10_ok : ∀ k, k < 60 → parseFieldDescriptor (TX10 k).2.2.1 = some (tyX10 k) := by decide +kernel
abbrev cX10_init : ByteArray := prog_12_method_1_code
def yX10_init : MethodName := ⟨RX10, "<init>", "()V"⟩
abbrev cX10_thrown : ByteArray := prog_12_method_2_code
def yX10_thrown : MethodName := ⟨RX10, "thrown", "()I"⟩
abbrev cX10_fail : ByteArray := prog_12_method_3_code
def yX10_fail : MethodName := ⟨RX10, "fail", "(I)I"⟩
abbrev cX10_isLeap : ByteArray := prog_12_method_4_code
def yX10_isLeap : MethodName := ⟨RX10, "isLeap", "(I)Z"⟩
abbrev cX10_leaps : ByteArray := prog_12_method_5_code
def yX10_leaps : MethodName := ⟨RX10, "leaps", "(I)I"⟩
abbrev cX10_yearDay : ByteArray := prog_12_method_6_code
def yX10_yearDay : MethodName := ⟨RX10, "yearDay", "(I)I"⟩
abbrev cX10_monthDays : ByteArray := prog_12_method_7_code
def yX10_monthDays : MethodName := ⟨RX10, "monthDays", "(II)I"⟩
abbrev cX10_dayOf : ByteArray := prog_12_method_8_code
def yX10_dayOf : MethodName := ⟨RX10, "dayOf", "(III)I"⟩
abbrev cX10_isDay : ByteArray := prog_12_method_9_code
def yX10_isDay : MethodName := ⟨RX10, "isDay", "(I)Z"⟩
abbrev cX10_yearOf : ByteArray := prog_12_method_10_code
def yX10_yearOf : MethodName := ⟨RX10, "yearOf", "(I)I"⟩
abbrev cX10_monthOf : ByteArray := prog_12_method_11_code
def yX10_monthOf : MethodName := ⟨RX10, "monthOf", "(I)I"⟩
abbrev cX10_day : ByteArray := prog_12_method_12_code
def yX10_day : MethodName := ⟨RX10, "day", "(III)I"⟩
abbrev cX10_date : ByteArray := prog_12_method_13_code
def yX10_date : MethodName := ⟨RX10, "date", "(II)I"⟩
abbrev cX10_behind : ByteArray := prog_12_method_14_code
def yX10_behind : MethodName := ⟨RX10, "behind", "(II)I"⟩
abbrev cX10_later : ByteArray := prog_12_method_15_code
def yX10_later : MethodName := ⟨RX10, "later", "(II)I"⟩
abbrev cX10_feed : ByteArray := prog_12_method_16_code
def yX10_feed : MethodName := ⟨RX10, "feed", "(IIIII)I"⟩
abbrev cX10_byteAt : ByteArray := prog_12_method_17_code
def yX10_byteAt : MethodName := ⟨RX10, "byteAt", "(I)I"⟩
abbrev cX10_isLetter : ByteArray := prog_12_method_18_code
def yX10_isLetter : MethodName := ⟨RX10, "isLetter", "(I)Z"⟩
abbrev cX10_isDigit : ByteArray := prog_12_method_19_code
def yX10_isDigit : MethodName := ⟨RX10, "isDigit", "(I)Z"⟩
abbrev cX10_step : ByteArray := prog_12_method_20_code
def yX10_step : MethodName := ⟨RX10, "step", "()V"⟩
abbrev cX10_wrong : ByteArray := prog_12_method_21_code
def yX10_wrong : MethodName := ⟨RX10, "wrong", "(I)V"⟩
abbrev cX10_isWord : ByteArray := prog_12_method_22_code
def yX10_isWord : MethodName := ⟨RX10, "isWord", "(Ljava/lang/String;)Z"⟩
abbrev cX10_numbered : ByteArray := prog_12_method_23_code
def yX10_numbered : MethodName := ⟨RX10, "numbered", "(II)I"⟩
abbrev cX10_word : ByteArray := prog_12_method_24_code
def yX10_word : MethodName := ⟨RX10, "word", "(Ljava/lang/String;)V"⟩
abbrev cX10_readNumbered : ByteArray := prog_12_method_25_code
def yX10_readNumbered : MethodName := ⟨RX10, "readNumbered", "(II)I"⟩
abbrev cX10_readNumber : ByteArray := prog_12_method_26_code
def yX10_readNumber : MethodName := ⟨RX10, "readNumber", "()I"⟩
abbrev cX10_readWhat : ByteArray := prog_12_method_27_code
def yX10_readWhat : MethodName := ⟨RX10, "readWhat", "()V"⟩
abbrev cX10_readTests : ByteArray := prog_12_method_28_code
def yX10_readTests : MethodName := ⟨RX10, "readTests", "()V"⟩
abbrev cX10_readRule : ByteArray := prog_12_method_29_code
def yX10_readRule : MethodName := ⟨RX10, "readRule", "()V"⟩
abbrev cX10_rules : ByteArray := prog_12_method_30_code
def yX10_rules : MethodName := ⟨RX10, "rules", "(II)I"⟩
abbrev cX10_fault : ByteArray := prog_12_method_31_code
def yX10_fault : MethodName := ⟨RX10, "fault", "()I"⟩
abbrev cX10_isThing : ByteArray := prog_12_method_32_code
def yX10_isThing : MethodName := ⟨RX10, "isThing", "(I)Z"⟩
abbrev cX10_isField : ByteArray := prog_12_method_33_code
def yX10_isField : MethodName := ⟨RX10, "isField", "(I)Z"⟩
abbrev cX10_isStore : ByteArray := prog_12_method_34_code
def yX10_isStore : MethodName := ⟨RX10, "isStore", "(I)Z"⟩
abbrev cX10_thing : ByteArray := prog_12_method_35_code
def yX10_thing : MethodName := ⟨RX10, "thing", "(I)I"⟩
abbrev cX10_fact : ByteArray := prog_12_method_36_code
def yX10_fact : MethodName := ⟨RX10, "fact", "(III)I"⟩
abbrev cX10_event : ByteArray := prog_12_method_37_code
def yX10_event : MethodName := ⟨RX10, "event", "(III)I"⟩
abbrev cX10_force : ByteArray := prog_12_method_38_code
def yX10_force : MethodName := ⟨RX10, "force", "(I)I"⟩
abbrev cX10_isFor : ByteArray := prog_12_method_39_code
def yX10_isFor : MethodName := ⟨RX10, "isFor", "(III)Z"⟩
abbrev cX10_until : ByteArray := prog_12_method_40_code
def yX10_until : MethodName := ⟨RX10, "until", "(II)I"⟩
abbrev cX10_bid : ByteArray := prog_12_method_41_code
def yX10_bid : MethodName := ⟨RX10, "bid", "(III)V"⟩
abbrev cX10_tell : ByteArray := prog_12_method_42_code
def yX10_tell : MethodName := ⟨RX10, "tell", "(III)V"⟩
abbrev cX10_isHeld : ByteArray := prog_12_method_43_code
def yX10_isHeld : MethodName := ⟨RX10, "isHeld", "(II)Z"⟩
abbrev cX10_know : ByteArray := prog_12_method_44_code
def yX10_know : MethodName := ⟨RX10, "know", "(II)V"⟩
abbrev cX10_isDue : ByteArray := prog_12_method_45_code
def yX10_isDue : MethodName := ⟨RX10, "isDue", "(III)Z"⟩
abbrev cX10_placesOf : ByteArray := prog_12_method_46_code
def yX10_placesOf : MethodName := ⟨RX10, "placesOf", "(II)I"⟩
abbrev cX10_copy : ByteArray := prog_12_method_47_code
def yX10_copy : MethodName := ⟨RX10, "copy", "(III)Z"⟩
abbrev cX10_copies : ByteArray := prog_12_method_48_code
def yX10_copies : MethodName := ⟨RX10, "copies", "(II)I"⟩
abbrev cX10_store : ByteArray := prog_12_method_49_code
def yX10_store : MethodName := ⟨RX10, "store", "(III)V"⟩
abbrev cX10_hold : ByteArray := prog_12_method_50_code
def yX10_hold : MethodName := ⟨RX10, "hold", "(II)I"⟩
abbrev cX10_lift : ByteArray := prog_12_method_51_code
def yX10_lift : MethodName := ⟨RX10, "lift", "(I)Z"⟩
abbrev cX10_wish : ByteArray := prog_12_method_52_code
def yX10_wish : MethodName := ⟨RX10, "wish", "(I)I"⟩
abbrev cX10_isSet : ByteArray := prog_12_method_53_code
def yX10_isSet : MethodName := ⟨RX10, "isSet", "(I)Z"⟩
abbrev cX10_span : ByteArray := prog_12_method_54_code
def yX10_span : MethodName := ⟨RX10, "span", "(IIII)I"⟩
abbrev cX10_lost : ByteArray := prog_12_method_55_code
def yX10_lost : MethodName := ⟨RX10, "lost", "(IIII)I"⟩
abbrev cX10_why : ByteArray := prog_12_method_56_code
def yX10_why : MethodName := ⟨RX10, "why", "(II)I"⟩
abbrev cX10_places : ByteArray := prog_12_method_57_code
def yX10_places : MethodName := ⟨RX10, "places", "(II)I"⟩
abbrev cX10_ones : ByteArray := prog_12_method_58_code
def yX10_ones : MethodName := ⟨RX10, "ones", "(I)I"⟩
abbrev cX10_misplaced : ByteArray := prog_12_method_59_code
def yX10_misplaced : MethodName := ⟨RX10, "misplaced", "()I"⟩
abbrev cX10_planned : ByteArray := prog_12_method_60_code
def yX10_planned : MethodName := ⟨RX10, "planned", "(III)I"⟩
abbrev cX10_differ : ByteArray := prog_12_method_61_code
def yX10_differ : MethodName := ⟨RX10, "differ", "(II)I"⟩
abbrev cX10_bites : ByteArray := prog_12_method_62_code
def yX10_bites : MethodName := ⟨RX10, "bites", "(II)Z"⟩
abbrev cX10_sweep : ByteArray := prog_12_method_63_code
def yX10_sweep : MethodName := ⟨RX10, "sweep", "(I)V"⟩
abbrev cX10_days : ByteArray := prog_12_method_64_code
def yX10_days : MethodName := ⟨RX10, "days", "(I)I"⟩
abbrev cX10_entry : ByteArray := prog_12_method_65_code
def yX10_entry : MethodName := ⟨RX10, "entry", "(II)I"⟩
abbrev cX10_count : ByteArray := prog_12_method_66_code
def yX10_count : MethodName := ⟨RX10, "count", "(I)I"⟩
def RJ6 : String := "java/lang/Integer"
def TJ6 : u_T := fun k => match k with
  | _ => ("", "", "", false)
def tyJ6 : Nat → FieldType := fun k => match k with
  | _ => .int
abbrev wsJ60 : List Cond := u_ws RJ6 TJ6 0
theorem nmJ6 : ∀ a, a < 0 → ∀ b, b < 0 → a ≠ b → (TJ6 a).2.1 ≠ (TJ6 b).2.1 := by decide +kernel
theorem tyJ6_ok : ∀ k, k < 0 → parseFieldDescriptor (TJ6 k).2.2.1 = some (tyJ6 k) := by decide +kernel
abbrev cJ6_bitCount_0f7a4 : ByteArray := prog_15_method_49_code
def yJ6_bitCount_0f7a4 : MethodName := ⟨RJ6, "bitCount", "(I)I"⟩
def RJ9 : String := "java/lang/Math"
def TJ9 : u_T := fun k => match k with
  | _ => ("", "", "", false)
def tyJ9 : Nat → FieldType := fun k => match k with
  | _ => .int
abbrev wsJ90 : List Cond := u_ws RJ9 TJ9 0
theorem nmJ9 : ∀ a, a < 0 → ∀ b, b < 0 → a ≠ b → (TJ9 a).2.1 ≠ (TJ9 b).2.1 := by decide +kernel
theorem tyJ9_ok : ∀ k, k < 0 → parseFieldDescriptor (TJ9 k).2.2.1 = some (tyJ9 k) := by decide +kernel
abbrev cJ9_max_7cf53 : ByteArray := prog_16_method_65_code
def yJ9_max_7cf53 : MethodName := ⟨RJ9, "max", "(II)I"⟩
abbrev cJ9_min_7cf53 : ByteArray := prog_16_method_69_code
def yJ9_min_7cf53 : MethodName := ⟨RJ9, "min", "(II)I"⟩
def RJ0 : String := "java/lang/String"
def TJ0 : u_T := fun k => match k with
  | _ => ("", "", "", false)
def tyJ0 : Nat → FieldType := fun k => match k with
  | _ => .int
abbrev wsJ00 : List Cond := u_ws RJ0 TJ0 0
theorem nmJ0 : ∀ a, a < 0 → ∀ b, b < 0 → a ≠ b → (TJ0 a).2.1 ≠ (TJ0 b).2.1 := by decide +kernel
theorem tyJ0_ok : ∀ k, k < 0 → parseFieldDescriptor (TJ0 k).2.2.1 = some (tyJ0 k) := by decide +kernel
abbrev cJ0_length_8abf5 : ByteArray := prog_18_method_54_code
def yJ0_length_8abf5 : MethodName := ⟨RJ0, "length", "()I"⟩
abbrev cJ0_charAt_5068e : ByteArray := prog_18_method_56_code
def yJ0_charAt_5068e : MethodName := ⟨RJ0, "charAt", "(I)C"⟩
abbrev cJ0_coder_7d493 : ByteArray := prog_18_method_152_code
def yJ0_coder_7d493 : MethodName := ⟨RJ0, "coder", "()B"⟩
abbrev cJ0_isLatin1_aae02 : ByteArray := prog_18_method_154_code
def yJ0_isLatin1_aae02 : MethodName := ⟨RJ0, "isLatin1", "()Z"⟩
abbrev cJ0_checkIndex_df160 : ByteArray := prog_18_method_155_code
def yJ0_checkIndex_df160 : MethodName := ⟨RJ0, "checkIndex", "(II)V"⟩
def RJ1 : String := "java/lang/StringLatin1"
def TJ1 : u_T := fun k => match k with
  | _ => ("", "", "", false)
def tyJ1 : Nat → FieldType := fun k => match k with
  | _ => .int
abbrev wsJ10 : List Cond := u_ws RJ1 TJ1 0
theorem nmJ1 : ∀ a, a < 0 → ∀ b, b < 0 → a ≠ b → (TJ1 a).2.1 ≠ (TJ1 b).2.1 := by decide +kernel
theorem tyJ1_ok : ∀ k, k < 0 → parseFieldDescriptor (TJ1 k).2.2.1 = some (tyJ1 k) := by decide +kernel
abbrev cJ1_charAt_3b067 : ByteArray := prog_19_method_2_code
def yJ1_charAt_3b067 : MethodName := ⟨RJ1, "charAt", "([BI)C"⟩
def RJ2 : String := "java/lang/StringUTF16"
def TJ2 : u_T := fun k => match k with
  | _ => ("", "", "", false)
def tyJ2 : Nat → FieldType := fun k => match k with
  | _ => .int
abbrev wsJ20 : List Cond := u_ws RJ2 TJ2 0
theorem nmJ2 : ∀ a, a < 0 → ∀ b, b < 0 → a ≠ b → (TJ2 a).2.1 ≠ (TJ2 b).2.1 := by decide +kernel
theorem tyJ2_ok : ∀ k, k < 0 → parseFieldDescriptor (TJ2 k).2.2.1 = some (tyJ2 k) := by decide +kernel
abbrev cJ2_getChar_3b067 : ByteArray := prog_20_method_5_code
def yJ2_getChar_3b067 : MethodName := ⟨RJ2, "getChar", "([BI)C"⟩
abbrev cJ2_length_9d52b : ByteArray := prog_20_method_6_code
def yJ2_length_9d52b : MethodName := ⟨RJ2, "length", "([B)I"⟩
abbrev cJ2_charAt_3b067 : ByteArray := prog_20_method_83_code
def yJ2_charAt_3b067 : MethodName := ⟨RJ2, "charAt", "([BI)C"⟩
abbrev cJ2_checkIndex_2214a : ByteArray := prog_20_method_91_code
def yJ2_checkIndex_2214a : MethodName := ⟨RJ2, "checkIndex", "(I[B)V"⟩
def RJ3 : String := "jdk/internal/util/Preconditions"
def TJ3 : u_T := fun k => match k with
  | _ => ("", "", "", false)
def tyJ3 : Nat → FieldType := fun k => match k with
  | _ => .int
abbrev wsJ30 : List Cond := u_ws RJ3 TJ3 0
theorem nmJ3 : ∀ a, a < 0 → ∀ b, b < 0 → a ≠ b → (TJ3 a).2.1 ≠ (TJ3 b).2.1 := by decide +kernel
theorem tyJ3_ok : ∀ k, k < 0 → parseFieldDescriptor (TJ3 k).2.2.1 = some (tyJ3 k) := by decide +kernel
abbrev cJ3_checkIndex_8e157 : ByteArray := prog_23_method_11_code
def yJ3_checkIndex_8e157 : MethodName := ⟨RJ3, "checkIndex", "(IILjava/util/function/BiFunction;)I"⟩
def RL : String := "KeepForgetLaw"
abbrev cL_day : ByteArray := method_3_code
def yL_day : MethodName := ⟨RL, "day", "(LKeepForget;III[J)I"⟩
abbrev cL_date : ByteArray := method_4_code
def yL_date : MethodName := ⟨RL, "date", "(LKeepForget;II[J)I"⟩
abbrev cL_later : ByteArray := method_5_code
def yL_later : MethodName := ⟨RL, "later", "(LKeepForget;II[J)I"⟩
abbrev cL_rules : ByteArray := method_6_code
def yL_rules : MethodName := ⟨RL, "rules", "(LKeepForget;II[J)I"⟩
abbrev cL_fact : ByteArray := method_7_code
def yL_fact : MethodName := ⟨RL, "fact", "(LKeepForget;III[J)I"⟩
abbrev cL_event : ByteArray := method_8_code
def yL_event : MethodName := ⟨RL, "event", "(LKeepForget;III[J)I"⟩
abbrev cL_copy : ByteArray := method_9_code
def yL_copy : MethodName := ⟨RL, "copy", "(LKeepForget;III[J)I"⟩
abbrev cL_copies : ByteArray := method_10_code
def yL_copies : MethodName := ⟨RL, "copies", "(LKeepForget;II[J)I"⟩
abbrev cL_store : ByteArray := method_11_code
def yL_store : MethodName := ⟨RL, "store", "(LKeepForget;III)I"⟩
abbrev cL_hold : ByteArray := method_12_code
def yL_hold : MethodName := ⟨RL, "hold", "(LKeepForget;II[J)I"⟩
abbrev cL_lift : ByteArray := method_13_code
def yL_lift : MethodName := ⟨RL, "lift", "(LKeepForget;I[J)I"⟩
abbrev cL_wish : ByteArray := method_14_code
def yL_wish : MethodName := ⟨RL, "wish", "(LKeepForget;I[J)I"⟩
abbrev cL_span : ByteArray := method_15_code
def yL_span : MethodName := ⟨RL, "span", "(LKeepForget;IIII[J)I"⟩
abbrev cL_lost : ByteArray := method_16_code
def yL_lost : MethodName := ⟨RL, "lost", "(LKeepForget;IIII[J)I"⟩
abbrev cL_why : ByteArray := method_17_code
def yL_why : MethodName := ⟨RL, "why", "(LKeepForget;II[J)I"⟩
abbrev cL_places : ByteArray := method_18_code
def yL_places : MethodName := ⟨RL, "places", "(LKeepForget;II[J)I"⟩
abbrev cL_planned : ByteArray := method_19_code
def yL_planned : MethodName := ⟨RL, "planned", "(LKeepForget;III[J)I"⟩
abbrev cL_differ : ByteArray := method_20_code
def yL_differ : MethodName := ⟨RL, "differ", "(LKeepForget;II[J)I"⟩
abbrev cL_bites : ByteArray := method_21_code
def yL_bites : MethodName := ⟨RL, "bites", "(LKeepForget;II[J)I"⟩
abbrev cL_days : ByteArray := method_22_code
def yL_days : MethodName := ⟨RL, "days", "(LKeepForget;I[J)I"⟩
abbrev cL_entry : ByteArray := method_23_code
def yL_entry : MethodName := ⟨RL, "entry", "(LKeepForget;II[J)I"⟩
abbrev cL_count : ByteArray := method_24_code
def yL_count : MethodName := ⟨RL, "count", "(LKeepForget;I[J)I"⟩
abbrev cL_law : ByteArray := code
def yL_law : MethodName := ⟨RL, "law", "([I)Z"⟩
abbrev vwCl : List vw_C := [(RX1, TX1, 3), (RX2, TX2, 3), (RX3, TX3, 12), (RX4, TX4, 7), (RX5, TX5, 5), (RX6, TX6, 8), (RX7, TX7, 2), (RX8, TX8, 6), (RX9, TX9, 13), (RX10, TX10, 60)]
end
section
/-! the tables' good words, and each by its place -/
def tb : List Cond := lw_tbl.filter goodWord
theorem tb_of {w : Cond} (h : w ∈ lw_tbl) (g : goodWord w = true) : w ∈ tb := List.mem_filter.mpr ⟨h, g⟩
theorem tb_t (i : Nat) {w : Cond} (h : tables_1[i]? = some w) (g : goodWord w = true) : w ∈ tb := tb_of (List.mem_append_right _ (List.mem_of_getElem? h)) g
theorem tb_p (i : Nat) {q : MethodName × Nat} (h : lw_privs[i]? = some q) (g : goodWord (Cond.selects q.1.cls q.1 q.1) = true) : Cond.selects q.1.cls q.1 q.1 ∈ tb := tb_of (List.mem_append_left _ (List.mem_map.mpr ⟨q, List.mem_of_getElem? h, rfl⟩)) g
def wt (y : MethodName) (cc : ByteArray) (n : Nat) (r : Option FieldType) : List Cond := Cond.code y cc n r :: tb
theorem tb_in {y : MethodName} {cc : ByteArray} {n : Nat} {r : Option FieldType} (h : Cond.code y cc n r ∈ tb) : GoodIn tb (wt y cc n r) := fun w hw => by
  have hm : w ∈ tb := (List.mem_cons.mp hw).elim (fun e => by rw [e]; exact h) id
  exact ⟨hm, good_of_word (List.mem_filter.mp hm).2⟩
theorem tW_0 : (Jvm.Cond.initialized "KeepForgetLaw") ∈ tb := tb_t 0 (by decide +kernel) (by decide +kernel)
theorem tW_1 : (Jvm.Cond.initialized "KeepForget") ∈ tb := tb_t 1 (by decide +kernel) (by decide +kernel)
theorem tW_2 : (Jvm.Cond.initialized "KeepForget$Sweeper") ∈ tb := tb_t 2 (by decide +kernel) (by decide +kernel)
theorem tW_3 : (Jvm.Cond.initialized "KeepForget$Log") ∈ tb := tb_t 3 (by decide +kernel) (by decide +kernel)
theorem tW_4 : (Jvm.Cond.initialized "KeepForget$Span") ∈ tb := tb_t 4 (by decide +kernel) (by decide +kernel)
theorem tW_5 : (Jvm.Cond.initialized "KeepForgetModel") ∈ tb := tb_t 5 (by decide +kernel) (by decide +kernel)
theorem tW_6 : (Jvm.Cond.initialized "java/lang/Throwable") ∈ tb := tb_t 6 (by decide +kernel) (by decide +kernel)
theorem tW_7 : (Jvm.Cond.initialized "java/lang/Exception") ∈ tb := tb_t 7 (by decide +kernel) (by decide +kernel)
theorem tW_8 : (Jvm.Cond.initialized "java/lang/RuntimeException") ∈ tb := tb_t 8 (by decide +kernel) (by decide +kernel)
theorem tW_9 : (Jvm.Cond.initialized "java/lang/IllegalArgumentException") ∈ tb := tb_t 9 (by decide +kernel) (by decide +kernel)
theorem tW_10 : (Jvm.Cond.initialized "KeepForget$Dates") ∈ tb := tb_t 10 (by decide +kernel) (by decide +kernel)
theorem tW_11 : (Jvm.Cond.initialized "java/lang/Math") ∈ tb := tb_t 11 (by decide +kernel) (by decide +kernel)
theorem tW_12 : (Jvm.Cond.initialized "KeepForget$RuleSet") ∈ tb := tb_t 12 (by decide +kernel) (by decide +kernel)
theorem tW_13 : (Jvm.Cond.initialized "KeepForget$RuleReader") ∈ tb := tb_t 13 (by decide +kernel) (by decide +kernel)
theorem tW_14 : (Jvm.Cond.initialized "java/lang/String") ∈ tb := tb_t 14 (by decide +kernel) (by decide +kernel)
theorem tW_15 : (Jvm.Cond.initialized "java/lang/StringLatin1") ∈ tb := tb_t 15 (by decide +kernel) (by decide +kernel)
theorem tW_16 : (Jvm.Cond.initialized "jdk/internal/util/Preconditions") ∈ tb := tb_t 16 (by decide +kernel) (by decide +kernel)
theorem tW_17 : (Jvm.Cond.initialized "java/lang/StringUTF16") ∈ tb := tb_t 17 (by decide +kernel) (by decide +kernel)
theorem tW_18 : (Jvm.Cond.initialized "KeepForget$Rule") ∈ tb := tb_t 18 (by decide +kernel) (by decide +kernel)
theorem tW_19 : (Jvm.Cond.initialized "KeepForget$Thing") ∈ tb := tb_t 19 (by decide +kernel) (by decide +kernel)
theorem tW_20 : (Jvm.Cond.initialized "java/util/NoSuchElementException") ∈ tb := tb_t 20 (by decide +kernel) (by decide +kernel)
theorem tW_21 : (Jvm.Cond.initialized "KeepForget$Hold") ∈ tb := tb_t 21 (by decide +kernel) (by decide +kernel)
theorem tW_22 : (Jvm.Cond.initialized "java/lang/Integer") ∈ tb := tb_t 22 (by decide +kernel) (by decide +kernel)
theorem tW_23 : (Jvm.Cond.classLink "KeepForgetLaw" (8 : Nat) "KeepForget") ∈ tb := tb_t 23 (by decide +kernel) (by decide +kernel)
theorem tW_24 : (Jvm.Cond.instantiable "KeepForget" (13 : Nat)) ∈ tb := tb_t 24 (by decide +kernel) (by decide +kernel)
theorem tW_25 : (Jvm.Cond.methodLink "KeepForgetLaw" (87 : Nat) ({ cls := "KeepForget", name := "<init>", desc := "()V" } : Jvm.MethodName)) ∈ tb := tb_t 25 (by decide +kernel) (by decide +kernel)
theorem tW_26 : (Jvm.Cond.instanceMethod ({ cls := "KeepForget", name := "<init>", desc := "()V" } : Jvm.MethodName)) ∈ tb := tb_t 26 (by decide +kernel) (by decide +kernel)
theorem tW_27 : (Jvm.Cond.code ({ cls := "KeepForget", name := "<init>", desc := "()V" } : Jvm.MethodName) prog_1_method_1_code (2 : Nat) (Option.none : Option Jvm.ClassFile.FieldType)) ∈ tb := tb_t 27 (by decide +kernel) (by decide +kernel)
theorem tW_28 : (Jvm.Cond.methodLink "KeepForget" (1 : Nat) ({ cls := "java/lang/Object", name := "<init>", desc := "()V" } : Jvm.MethodName)) ∈ tb := tb_t 28 (by decide +kernel) (by decide +kernel)
theorem tW_29 : (Jvm.Cond.instanceMethod ({ cls := "java/lang/Object", name := "<init>", desc := "()V" } : Jvm.MethodName)) ∈ tb := tb_t 29 (by decide +kernel) (by decide +kernel)
theorem tW_30 : (Jvm.Cond.code ({ cls := "java/lang/Object", name := "<init>", desc := "()V" } : Jvm.MethodName) object_method_1_code (1 : Nat) (Option.none : Option Jvm.ClassFile.FieldType)) ∈ tb := tb_t 30 (by decide +kernel) (by decide +kernel)
theorem tW_31 : (Jvm.Cond.classLink "KeepForget" (17 : Nat) "KeepForget$RuleSet") ∈ tb := tb_t 31 (by decide +kernel) (by decide +kernel)
theorem tW_33 : (Jvm.Cond.classLink "KeepForget" (23 : Nat) "KeepForget$Thing") ∈ tb := tb_t 33 (by decide +kernel) (by decide +kernel)
theorem tW_35 : (Jvm.Cond.classLink "KeepForget" (29 : Nat) "KeepForget$Sweeper") ∈ tb := tb_t 35 (by decide +kernel) (by decide +kernel)
theorem tW_37 : (Jvm.Cond.instantiable "KeepForget$Sweeper" (2 : Nat)) ∈ tb := tb_t 37 (by decide +kernel) (by decide +kernel)
theorem tW_38 : (Jvm.Cond.methodLink "KeepForget" (35 : Nat) ({ cls := "KeepForget$Sweeper", name := "<init>", desc := "()V" } : Jvm.MethodName)) ∈ tb := tb_t 38 (by decide +kernel) (by decide +kernel)
theorem tW_39 : (Jvm.Cond.instanceMethod ({ cls := "KeepForget$Sweeper", name := "<init>", desc := "()V" } : Jvm.MethodName)) ∈ tb := tb_t 39 (by decide +kernel) (by decide +kernel)
theorem tW_40 : (Jvm.Cond.code ({ cls := "KeepForget$Sweeper", name := "<init>", desc := "()V" } : Jvm.MethodName) prog_9_method_1_code (1 : Nat) (Option.none : Option Jvm.ClassFile.FieldType)) ∈ tb := tb_t 40 (by decide +kernel) (by decide +kernel)
theorem tW_41 : (Jvm.Cond.methodLink "KeepForget$Sweeper" (3 : Nat) ({ cls := "java/lang/Object", name := "<init>", desc := "()V" } : Jvm.MethodName)) ∈ tb := tb_t 41 (by decide +kernel) (by decide +kernel)
theorem tW_42 : (Jvm.Cond.fieldLink "KeepForget$Sweeper" (9 : Nat) "KeepForget$Sweeper" "every" "I") ∈ tb := tb_t 42 (by decide +kernel) (by decide +kernel)
theorem tW_43 : (Jvm.Cond.fieldLink "KeepForget" (162 : Nat) "KeepForget$Sweeper" "every" "I") ∈ tb := tb_t 43 (by decide +kernel) (by decide +kernel)
theorem tW_44 : (Jvm.Cond.fieldLink "KeepForget$Sweeper" (15 : Nat) "KeepForget$Sweeper" "first" "I") ∈ tb := tb_t 44 (by decide +kernel) (by decide +kernel)
theorem tW_45 : (Jvm.Cond.fieldLink "KeepForget" (165 : Nat) "KeepForget$Sweeper" "first" "I") ∈ tb := tb_t 45 (by decide +kernel) (by decide +kernel)
theorem tW_51 : (Jvm.Cond.arrayClass Jvm.ClassFile.FieldType.byte) ∈ tb := tb_t 51 (by decide +kernel) (by decide +kernel)
theorem tW_52 : (Jvm.Cond.classLink "KeepForget" (36 : Nat) "KeepForget$Hold") ∈ tb := tb_t 52 (by decide +kernel) (by decide +kernel)
theorem tW_54 : (Jvm.Cond.classLink "KeepForget" (42 : Nat) "KeepForget$Log") ∈ tb := tb_t 54 (by decide +kernel) (by decide +kernel)
theorem tW_55 : (Jvm.Cond.instantiable "KeepForget$Log" (3 : Nat)) ∈ tb := tb_t 55 (by decide +kernel) (by decide +kernel)
theorem tW_56 : (Jvm.Cond.methodLink "KeepForget" (44 : Nat) ({ cls := "KeepForget$Log", name := "<init>", desc := "()V" } : Jvm.MethodName)) ∈ tb := tb_t 56 (by decide +kernel) (by decide +kernel)
theorem tW_57 : (Jvm.Cond.instanceMethod ({ cls := "KeepForget$Log", name := "<init>", desc := "()V" } : Jvm.MethodName)) ∈ tb := tb_t 57 (by decide +kernel) (by decide +kernel)
theorem tW_58 : (Jvm.Cond.code ({ cls := "KeepForget$Log", name := "<init>", desc := "()V" } : Jvm.MethodName) prog_4_method_1_code (1 : Nat) (Option.none : Option Jvm.ClassFile.FieldType)) ∈ tb := tb_t 58 (by decide +kernel) (by decide +kernel)
theorem tW_59 : (Jvm.Cond.methodLink "KeepForget$Log" (3 : Nat) ({ cls := "java/lang/Object", name := "<init>", desc := "()V" } : Jvm.MethodName)) ∈ tb := tb_t 59 (by decide +kernel) (by decide +kernel)
theorem tW_60 : (Jvm.Cond.fieldLink "KeepForget$Log" (9 : Nat) "KeepForget$Log" "parts" "[I") ∈ tb := tb_t 60 (by decide +kernel) (by decide +kernel)
theorem tW_61 : (Jvm.Cond.fieldLink "KeepForget" (281 : Nat) "KeepForget$Log" "parts" "[I") ∈ tb := tb_t 61 (by decide +kernel) (by decide +kernel)
theorem tW_62 : (Jvm.Cond.fieldLink "KeepForget$Log" (15 : Nat) "KeepForget$Log" "lineCount" "I") ∈ tb := tb_t 62 (by decide +kernel) (by decide +kernel)
theorem tW_63 : (Jvm.Cond.fieldLink "KeepForget" (276 : Nat) "KeepForget$Log" "lineCount" "I") ∈ tb := tb_t 63 (by decide +kernel) (by decide +kernel)
theorem tW_64 : (Jvm.Cond.fieldLink "KeepForget$Log" (24 : Nat) "KeepForget$Log" "lateCount" "I") ∈ tb := tb_t 64 (by decide +kernel) (by decide +kernel)
theorem tW_65 : (Jvm.Cond.fieldLink "KeepForget" (288 : Nat) "KeepForget$Log" "lateCount" "I") ∈ tb := tb_t 65 (by decide +kernel) (by decide +kernel)
theorem tW_73 : (Jvm.Cond.arrayClass Jvm.ClassFile.FieldType.int) ∈ tb := tb_t 73 (by decide +kernel) (by decide +kernel)
theorem tW_74 : (Jvm.Cond.classLink "KeepForget" (49 : Nat) "KeepForget$Span") ∈ tb := tb_t 74 (by decide +kernel) (by decide +kernel)
theorem tW_75 : (Jvm.Cond.instantiable "KeepForget$Span" (8 : Nat)) ∈ tb := tb_t 75 (by decide +kernel) (by decide +kernel)
theorem tW_76 : (Jvm.Cond.methodLink "KeepForget" (51 : Nat) ({ cls := "KeepForget$Span", name := "<init>", desc := "()V" } : Jvm.MethodName)) ∈ tb := tb_t 76 (by decide +kernel) (by decide +kernel)
theorem tW_77 : (Jvm.Cond.instanceMethod ({ cls := "KeepForget$Span", name := "<init>", desc := "()V" } : Jvm.MethodName)) ∈ tb := tb_t 77 (by decide +kernel) (by decide +kernel)
theorem tW_78 : (Jvm.Cond.code ({ cls := "KeepForget$Span", name := "<init>", desc := "()V" } : Jvm.MethodName) prog_8_method_1_code (1 : Nat) (Option.none : Option Jvm.ClassFile.FieldType)) ∈ tb := tb_t 78 (by decide +kernel) (by decide +kernel)
theorem tW_79 : (Jvm.Cond.methodLink "KeepForget$Span" (3 : Nat) ({ cls := "java/lang/Object", name := "<init>", desc := "()V" } : Jvm.MethodName)) ∈ tb := tb_t 79 (by decide +kernel) (by decide +kernel)
theorem tW_80 : (Jvm.Cond.fieldLink "KeepForget$Span" (15 : Nat) "KeepForget$Span" "from" "I") ∈ tb := tb_t 80 (by decide +kernel) (by decide +kernel)
theorem tW_81 : (Jvm.Cond.fieldLink "KeepForget" (213 : Nat) "KeepForget$Span" "from" "I") ∈ tb := tb_t 81 (by decide +kernel) (by decide +kernel)
theorem tW_82 : (Jvm.Cond.fieldLink "KeepForget$Span" (20 : Nat) "KeepForget$Span" "to" "I") ∈ tb := tb_t 82 (by decide +kernel) (by decide +kernel)
theorem tW_83 : (Jvm.Cond.fieldLink "KeepForget$Log" (27 : Nat) "KeepForget$Span" "to" "I") ∈ tb := tb_t 83 (by decide +kernel) (by decide +kernel)
theorem tW_84 : (Jvm.Cond.fieldLink "KeepForget" (216 : Nat) "KeepForget$Span" "to" "I") ∈ tb := tb_t 84 (by decide +kernel) (by decide +kernel)
theorem tW_85 : (Jvm.Cond.fieldLink "KeepForget$Span" (23 : Nat) "KeepForget$Span" "fromRule" "I") ∈ tb := tb_t 85 (by decide +kernel) (by decide +kernel)
theorem tW_86 : (Jvm.Cond.fieldLink "KeepForget" (219 : Nat) "KeepForget$Span" "fromRule" "I") ∈ tb := tb_t 86 (by decide +kernel) (by decide +kernel)
theorem tW_87 : (Jvm.Cond.fieldLink "KeepForget$Span" (26 : Nat) "KeepForget$Span" "toRule" "I") ∈ tb := tb_t 87 (by decide +kernel) (by decide +kernel)
theorem tW_88 : (Jvm.Cond.fieldLink "KeepForget$Log" (19 : Nat) "KeepForget$Span" "toRule" "I") ∈ tb := tb_t 88 (by decide +kernel) (by decide +kernel)
theorem tW_89 : (Jvm.Cond.fieldLink "KeepForget" (222 : Nat) "KeepForget$Span" "toRule" "I") ∈ tb := tb_t 89 (by decide +kernel) (by decide +kernel)
theorem tW_90 : (Jvm.Cond.fieldLink "KeepForget$Span" (9 : Nat) "KeepForget$Span" "lostRules" "[I") ∈ tb := tb_t 90 (by decide +kernel) (by decide +kernel)
theorem tW_91 : (Jvm.Cond.fieldLink "KeepForget" (232 : Nat) "KeepForget$Span" "lostRules" "[I") ∈ tb := tb_t 91 (by decide +kernel) (by decide +kernel)
theorem tW_92 : (Jvm.Cond.fieldLink "KeepForget$Span" (29 : Nat) "KeepForget$Span" "lostCount" "I") ∈ tb := tb_t 92 (by decide +kernel) (by decide +kernel)
theorem tW_93 : (Jvm.Cond.fieldLink "KeepForget" (225 : Nat) "KeepForget$Span" "lostCount" "I") ∈ tb := tb_t 93 (by decide +kernel) (by decide +kernel)
theorem tW_94 : (Jvm.Cond.fieldLink "KeepForget$Span" (37 : Nat) "KeepForget$Span" "isHeld" "Z") ∈ tb := tb_t 94 (by decide +kernel) (by decide +kernel)
theorem tW_95 : (Jvm.Cond.fieldLink "KeepForget" (235 : Nat) "KeepForget$Span" "isHeld" "Z") ∈ tb := tb_t 95 (by decide +kernel) (by decide +kernel)
theorem tW_96 : (Jvm.Cond.fieldLink "KeepForget$Span" (44 : Nat) "KeepForget$Span" "isWished" "Z") ∈ tb := tb_t 96 (by decide +kernel) (by decide +kernel)
theorem tW_114 : (Jvm.Cond.fieldLink "KeepForget" (9 : Nat) "KeepForget" "tape" "[B") ∈ tb := tb_t 114 (by decide +kernel) (by decide +kernel)
theorem tW_115 : (Jvm.Cond.fieldLink "KeepForget" (93 : Nat) "KeepForget" "tapeLength" "I") ∈ tb := tb_t 115 (by decide +kernel) (by decide +kernel)
theorem tW_116 : (Jvm.Cond.fieldLink "KeepForget" (13 : Nat) "KeepForget" "faultPlace" "I") ∈ tb := tb_t 116 (by decide +kernel) (by decide +kernel)
theorem tW_117 : (Jvm.Cond.fieldLink "KeepForget" (19 : Nat) "KeepForget" "sets" "[LKeepForget$RuleSet;") ∈ tb := tb_t 117 (by decide +kernel) (by decide +kernel)
theorem tW_118 : (Jvm.Cond.fieldLink "KeepForget" (101 : Nat) "KeepForget" "setCount" "I") ∈ tb := tb_t 118 (by decide +kernel) (by decide +kernel)
theorem tW_119 : (Jvm.Cond.fieldLink "KeepForget" (25 : Nat) "KeepForget" "things" "[LKeepForget$Thing;") ∈ tb := tb_t 119 (by decide +kernel) (by decide +kernel)
theorem tW_120 : (Jvm.Cond.fieldLink "KeepForget" (119 : Nat) "KeepForget" "thingCount" "I") ∈ tb := tb_t 120 (by decide +kernel) (by decide +kernel)
theorem tW_121 : (Jvm.Cond.fieldLink "KeepForget" (31 : Nat) "KeepForget" "sweepers" "[LKeepForget$Sweeper;") ∈ tb := tb_t 121 (by decide +kernel) (by decide +kernel)
theorem tW_122 : (Jvm.Cond.fieldLink "KeepForget" (38 : Nat) "KeepForget" "holds" "[LKeepForget$Hold;") ∈ tb := tb_t 122 (by decide +kernel) (by decide +kernel)
theorem tW_123 : (Jvm.Cond.fieldLink "KeepForget" (168 : Nat) "KeepForget" "holdCount" "I") ∈ tb := tb_t 123 (by decide +kernel) (by decide +kernel)
theorem tW_124 : (Jvm.Cond.fieldLink "KeepForget" (45 : Nat) "KeepForget" "log" "LKeepForget$Log;") ∈ tb := tb_t 124 (by decide +kernel) (by decide +kernel)
theorem tW_125 : (Jvm.Cond.fieldLink "KeepForget" (52 : Nat) "KeepForget" "settled" "LKeepForget$Span;") ∈ tb := tb_t 125 (by decide +kernel) (by decide +kernel)
theorem tW_126 : (Jvm.Cond.fieldLink "KeepForget" (202 : Nat) "KeepForget" "now" "I") ∈ tb := tb_t 126 (by decide +kernel) (by decide +kernel)
theorem tW_154 : (Jvm.Cond.methodLink "KeepForgetLaw" (108 : Nat) ({ cls := "KeepForget", name := "feed", desc := "(IIIII)I" } : Jvm.MethodName)) ∈ tb := tb_t 154 (by decide +kernel) (by decide +kernel)
theorem tW_155 : (Jvm.Cond.instanceMethod ({ cls := "KeepForget", name := "feed", desc := "(IIIII)I" } : Jvm.MethodName)) ∈ tb := tb_t 155 (by decide +kernel) (by decide +kernel)
theorem tW_156 : (Jvm.Cond.selects "KeepForget" ({ cls := "KeepForget", name := "feed", desc := "(IIIII)I" } : Jvm.MethodName) ({ cls := "KeepForget", name := "feed", desc := "(IIIII)I" } : Jvm.MethodName)) ∈ tb := tb_t 156 (by decide +kernel) (by decide +kernel)
theorem tW_157 : (Jvm.Cond.code ({ cls := "KeepForget", name := "feed", desc := "(IIIII)I" } : Jvm.MethodName) prog_1_method_5_code (6 : Nat) (Option.some Jvm.ClassFile.FieldType.int)) ∈ tb := tb_t 157 (by decide +kernel) (by decide +kernel)
theorem tW_158 : (Jvm.Cond.methodLink "KeepForget" (96 : Nat) ({ cls := "KeepForget", name := "putOnTape", desc := "(I)V" } : Jvm.MethodName)) ∈ tb := tb_t 158 (by decide +kernel) (by decide +kernel)
theorem tW_160 : (Jvm.Cond.instanceMethod ({ cls := "KeepForget", name := "putOnTape", desc := "(I)V" } : Jvm.MethodName)) ∈ tb := tb_t 160 (by decide +kernel) (by decide +kernel)
theorem tW_161 : (Jvm.Cond.code ({ cls := "KeepForget", name := "putOnTape", desc := "(I)V" } : Jvm.MethodName) prog_1_method_36_code (3 : Nat) (Option.none : Option Jvm.ClassFile.FieldType)) ∈ tb := tb_t 161 (by decide +kernel) (by decide +kernel)
theorem tW_162 : (Jvm.Cond.methodLink "KeepForgetLaw" (116 : Nat) ({ cls := "KeepForget", name := "fault", desc := "()I" } : Jvm.MethodName)) ∈ tb := tb_t 162 (by decide +kernel) (by decide +kernel)
theorem tW_163 : (Jvm.Cond.instanceMethod ({ cls := "KeepForget", name := "fault", desc := "()I" } : Jvm.MethodName)) ∈ tb := tb_t 163 (by decide +kernel) (by decide +kernel)
theorem tW_164 : (Jvm.Cond.selects "KeepForget" ({ cls := "KeepForget", name := "fault", desc := "()I" } : Jvm.MethodName) ({ cls := "KeepForget", name := "fault", desc := "()I" } : Jvm.MethodName)) ∈ tb := tb_t 164 (by decide +kernel) (by decide +kernel)
theorem tW_165 : (Jvm.Cond.code ({ cls := "KeepForget", name := "fault", desc := "()I" } : Jvm.MethodName) prog_1_method_7_code (1 : Nat) (Option.some Jvm.ClassFile.FieldType.int)) ∈ tb := tb_t 165 (by decide +kernel) (by decide +kernel)
theorem tW_166 : (Jvm.Cond.methodLink "KeepForgetLaw" (120 : Nat) ({ cls := "KeepForget", name := "thing", desc := "(I)I" } : Jvm.MethodName)) ∈ tb := tb_t 166 (by decide +kernel) (by decide +kernel)
theorem tW_167 : (Jvm.Cond.instanceMethod ({ cls := "KeepForget", name := "thing", desc := "(I)I" } : Jvm.MethodName)) ∈ tb := tb_t 167 (by decide +kernel) (by decide +kernel)
theorem tW_168 : (Jvm.Cond.selects "KeepForget" ({ cls := "KeepForget", name := "thing", desc := "(I)I" } : Jvm.MethodName) ({ cls := "KeepForget", name := "thing", desc := "(I)I" } : Jvm.MethodName)) ∈ tb := tb_t 168 (by decide +kernel) (by decide +kernel)
theorem tW_169 : (Jvm.Cond.code ({ cls := "KeepForget", name := "thing", desc := "(I)I" } : Jvm.MethodName) prog_1_method_8_code (2 : Nat) (Option.some Jvm.ClassFile.FieldType.int)) ∈ tb := tb_t 169 (by decide +kernel) (by decide +kernel)
theorem tW_170 : (Jvm.Cond.instantiable "KeepForget$Thing" (6 : Nat)) ∈ tb := tb_t 170 (by decide +kernel) (by decide +kernel)
theorem tW_171 : (Jvm.Cond.methodLink "KeepForget" (122 : Nat) ({ cls := "KeepForget$Thing", name := "<init>", desc := "(I)V" } : Jvm.MethodName)) ∈ tb := tb_t 171 (by decide +kernel) (by decide +kernel)
theorem tW_172 : (Jvm.Cond.instanceMethod ({ cls := "KeepForget$Thing", name := "<init>", desc := "(I)V" } : Jvm.MethodName)) ∈ tb := tb_t 172 (by decide +kernel) (by decide +kernel)
theorem tW_173 : (Jvm.Cond.code ({ cls := "KeepForget$Thing", name := "<init>", desc := "(I)V" } : Jvm.MethodName) prog_10_method_1_code (3 : Nat) (Option.none : Option Jvm.ClassFile.FieldType)) ∈ tb := tb_t 173 (by decide +kernel) (by decide +kernel)
theorem tW_174 : (Jvm.Cond.methodLink "KeepForget$Thing" (3 : Nat) ({ cls := "java/lang/Object", name := "<init>", desc := "()V" } : Jvm.MethodName)) ∈ tb := tb_t 174 (by decide +kernel) (by decide +kernel)
theorem tW_175 : (Jvm.Cond.fieldLink "KeepForget$Thing" (9 : Nat) "KeepForget$Thing" "kind" "I") ∈ tb := tb_t 175 (by decide +kernel) (by decide +kernel)
theorem tW_176 : (Jvm.Cond.fieldLink "KeepForget$Rule" (29 : Nat) "KeepForget$Thing" "kind" "I") ∈ tb := tb_t 176 (by decide +kernel) (by decide +kernel)
theorem tW_177 : (Jvm.Cond.fieldLink "KeepForget$Thing" (15 : Nat) "KeepForget$Thing" "facts" "[I") ∈ tb := tb_t 177 (by decide +kernel) (by decide +kernel)
theorem tW_178 : (Jvm.Cond.fieldLink "KeepForget$Rule" (40 : Nat) "KeepForget$Thing" "facts" "[I") ∈ tb := tb_t 178 (by decide +kernel) (by decide +kernel)
theorem tW_179 : (Jvm.Cond.fieldLink "KeepForget" (134 : Nat) "KeepForget$Thing" "facts" "[I") ∈ tb := tb_t 179 (by decide +kernel) (by decide +kernel)
theorem tW_180 : (Jvm.Cond.fieldLink "KeepForget$Thing" (19 : Nat) "KeepForget$Thing" "events" "[I") ∈ tb := tb_t 180 (by decide +kernel) (by decide +kernel)
theorem tW_181 : (Jvm.Cond.fieldLink "KeepForget$Rule" (43 : Nat) "KeepForget$Thing" "events" "[I") ∈ tb := tb_t 181 (by decide +kernel) (by decide +kernel)
theorem tW_182 : (Jvm.Cond.fieldLink "KeepForget" (140 : Nat) "KeepForget$Thing" "events" "[I") ∈ tb := tb_t 182 (by decide +kernel) (by decide +kernel)
theorem tW_183 : (Jvm.Cond.fieldLink "KeepForget$Thing" (22 : Nat) "KeepForget$Thing" "copies" "[I") ∈ tb := tb_t 183 (by decide +kernel) (by decide +kernel)
theorem tW_184 : (Jvm.Cond.fieldLink "KeepForget" (157 : Nat) "KeepForget$Thing" "copies" "[I") ∈ tb := tb_t 184 (by decide +kernel) (by decide +kernel)
theorem tW_185 : (Jvm.Cond.fieldLink "KeepForget$Span" (32 : Nat) "KeepForget$Thing" "held" "I") ∈ tb := tb_t 185 (by decide +kernel) (by decide +kernel)
theorem tW_186 : (Jvm.Cond.fieldLink "KeepForget" (174 : Nat) "KeepForget$Thing" "held" "I") ∈ tb := tb_t 186 (by decide +kernel) (by decide +kernel)
theorem tW_187 : (Jvm.Cond.fieldLink "KeepForget$Span" (41 : Nat) "KeepForget$Thing" "isWished" "Z") ∈ tb := tb_t 187 (by decide +kernel) (by decide +kernel)
theorem tW_188 : (Jvm.Cond.fieldLink "KeepForget" (191 : Nat) "KeepForget$Thing" "isWished" "Z") ∈ tb := tb_t 188 (by decide +kernel) (by decide +kernel)
theorem tW_202 : (Jvm.Cond.methodLink "KeepForgetLaw" (163 : Nat) ({ cls := "KeepForget", name := "misplaced", desc := "()I" } : Jvm.MethodName)) ∈ tb := tb_t 202 (by decide +kernel) (by decide +kernel)
theorem tW_203 : (Jvm.Cond.instanceMethod ({ cls := "KeepForget", name := "misplaced", desc := "()I" } : Jvm.MethodName)) ∈ tb := tb_t 203 (by decide +kernel) (by decide +kernel)
theorem tW_204 : (Jvm.Cond.selects "KeepForget" ({ cls := "KeepForget", name := "misplaced", desc := "()I" } : Jvm.MethodName) ({ cls := "KeepForget", name := "misplaced", desc := "()I" } : Jvm.MethodName)) ∈ tb := tb_t 204 (by decide +kernel) (by decide +kernel)
theorem tW_205 : (Jvm.Cond.code ({ cls := "KeepForget", name := "misplaced", desc := "()I" } : Jvm.MethodName) prog_1_method_21_code (5 : Nat) (Option.some Jvm.ClassFile.FieldType.int)) ∈ tb := tb_t 205 (by decide +kernel) (by decide +kernel)
theorem tW_206 : (Jvm.Cond.methodLink "KeepForget" (153 : Nat) ({ cls := "KeepForget", name := "placesOf", desc := "(LKeepForget$Thing;I)I" } : Jvm.MethodName)) ∈ tb := tb_t 206 (by decide +kernel) (by decide +kernel)
theorem tW_208 : (Jvm.Cond.instanceMethod ({ cls := "KeepForget", name := "placesOf", desc := "(LKeepForget$Thing;I)I" } : Jvm.MethodName)) ∈ tb := tb_t 208 (by decide +kernel) (by decide +kernel)
theorem tW_209 : (Jvm.Cond.code ({ cls := "KeepForget", name := "placesOf", desc := "(LKeepForget$Thing;I)I" } : Jvm.MethodName) prog_1_method_37_code (4 : Nat) (Option.some Jvm.ClassFile.FieldType.int)) ∈ tb := tb_t 209 (by decide +kernel) (by decide +kernel)
theorem tW_210 : (Jvm.Cond.methodLink "KeepForget" (194 : Nat) ({ cls := "KeepForget", name := "setInForce", desc := "()LKeepForget$RuleSet;" } : Jvm.MethodName)) ∈ tb := tb_t 210 (by decide +kernel) (by decide +kernel)
theorem tW_212 : (Jvm.Cond.instanceMethod ({ cls := "KeepForget", name := "setInForce", desc := "()LKeepForget$RuleSet;" } : Jvm.MethodName)) ∈ tb := tb_t 212 (by decide +kernel) (by decide +kernel)
theorem tW_213 : (Jvm.Cond.code ({ cls := "KeepForget", name := "setInForce", desc := "()LKeepForget$RuleSet;" } : Jvm.MethodName) prog_1_method_34_code (2 : Nat) (Option.some (Jvm.ClassFile.FieldType.object "KeepForget$RuleSet"))) ∈ tb := tb_t 213 (by decide +kernel) (by decide +kernel)
theorem tW_214 : (Jvm.Cond.methodLink "KeepForget" (284 : Nat) ({ cls := "KeepForget", name := "numberInForce", desc := "()I" } : Jvm.MethodName)) ∈ tb := tb_t 214 (by decide +kernel) (by decide +kernel)
theorem tW_216 : (Jvm.Cond.instanceMethod ({ cls := "KeepForget", name := "numberInForce", desc := "()I" } : Jvm.MethodName)) ∈ tb := tb_t 216 (by decide +kernel) (by decide +kernel)
theorem tW_217 : (Jvm.Cond.code ({ cls := "KeepForget", name := "numberInForce", desc := "()I" } : Jvm.MethodName) prog_1_method_35_code (3 : Nat) (Option.some Jvm.ClassFile.FieldType.int)) ∈ tb := tb_t 217 (by decide +kernel) (by decide +kernel)
theorem tW_218 : (Jvm.Cond.methodLink "KeepForget" (312 : Nat) ({ cls := "KeepForget$RuleSet", name := "storesFor", desc := "(LKeepForget$Thing;I)I" } : Jvm.MethodName)) ∈ tb := tb_t 218 (by decide +kernel) (by decide +kernel)
theorem tW_219 : (Jvm.Cond.instanceMethod ({ cls := "KeepForget$RuleSet", name := "storesFor", desc := "(LKeepForget$Thing;I)I" } : Jvm.MethodName)) ∈ tb := tb_t 219 (by decide +kernel) (by decide +kernel)
theorem tW_220 : (Jvm.Cond.selects "KeepForget$RuleSet" ({ cls := "KeepForget$RuleSet", name := "storesFor", desc := "(LKeepForget$Thing;I)I" } : Jvm.MethodName) ({ cls := "KeepForget$RuleSet", name := "storesFor", desc := "(LKeepForget$Thing;I)I" } : Jvm.MethodName)) ∈ tb := tb_t 220 (by decide +kernel) (by decide +kernel)
theorem tW_221 : (Jvm.Cond.code ({ cls := "KeepForget$RuleSet", name := "storesFor", desc := "(LKeepForget$Thing;I)I" } : Jvm.MethodName) prog_7_method_5_code (5 : Nat) (Option.some Jvm.ClassFile.FieldType.int)) ∈ tb := tb_t 221 (by decide +kernel) (by decide +kernel)
theorem tW_222 : (Jvm.Cond.methodLink "KeepForget$RuleSet" (45 : Nat) ({ cls := "KeepForget$Rule", name := "isFor", desc := "(LKeepForget$Thing;I)Z" } : Jvm.MethodName)) ∈ tb := tb_t 222 (by decide +kernel) (by decide +kernel)
theorem tW_223 : (Jvm.Cond.instanceMethod ({ cls := "KeepForget$Rule", name := "isFor", desc := "(LKeepForget$Thing;I)Z" } : Jvm.MethodName)) ∈ tb := tb_t 223 (by decide +kernel) (by decide +kernel)
theorem tW_224 : (Jvm.Cond.selects "KeepForget$Rule" ({ cls := "KeepForget$Rule", name := "isFor", desc := "(LKeepForget$Thing;I)Z" } : Jvm.MethodName) ({ cls := "KeepForget$Rule", name := "isFor", desc := "(LKeepForget$Thing;I)Z" } : Jvm.MethodName)) ∈ tb := tb_t 224 (by decide +kernel) (by decide +kernel)
theorem tW_225 : (Jvm.Cond.code ({ cls := "KeepForget$Rule", name := "isFor", desc := "(LKeepForget$Thing;I)Z" } : Jvm.MethodName) prog_5_method_2_code (5 : Nat) (Option.some Jvm.ClassFile.FieldType.boolean)) ∈ tb := tb_t 225 (by decide +kernel) (by decide +kernel)
theorem tW_226 : (Jvm.Cond.methodLink "KeepForget" (238 : Nat) ({ cls := "java/lang/Integer", name := "bitCount", desc := "(I)I" } : Jvm.MethodName)) ∈ tb := tb_t 226 (by decide +kernel) (by decide +kernel)
theorem tW_227 : (Jvm.Cond.static ({ cls := "java/lang/Integer", name := "bitCount", desc := "(I)I" } : Jvm.MethodName)) ∈ tb := tb_t 227 (by decide +kernel) (by decide +kernel)
theorem tW_228 : (Jvm.Cond.code ({ cls := "java/lang/Integer", name := "bitCount", desc := "(I)I" } : Jvm.MethodName) prog_15_method_49_code (1 : Nat) (Option.some Jvm.ClassFile.FieldType.int)) ∈ tb := tb_t 228 (by decide +kernel) (by decide +kernel)
theorem tW_229 : (Jvm.Cond.constant "java/lang/Integer" (265 : Nat) (1431655765 : Int32)) ∈ tb := tb_t 229 (by decide +kernel) (by decide +kernel)
theorem tW_230 : (Jvm.Cond.constant "java/lang/Integer" (266 : Nat) (858993459 : Int32)) ∈ tb := tb_t 230 (by decide +kernel) (by decide +kernel)
theorem tW_231 : (Jvm.Cond.constant "java/lang/Integer" (267 : Nat) (252645135 : Int32)) ∈ tb := tb_t 231 (by decide +kernel) (by decide +kernel)
theorem tW_232 : (Jvm.Cond.methodLink "KeepForgetLaw" (91 : Nat) ({ cls := "KeepForgetLaw", name := "day", desc := "(LKeepForget;III[J)I" } : Jvm.MethodName)) ∈ tb := tb_t 232 (by decide +kernel) (by decide +kernel)
theorem tW_233 : (Jvm.Cond.static ({ cls := "KeepForgetLaw", name := "day", desc := "(LKeepForget;III[J)I" } : Jvm.MethodName)) ∈ tb := tb_t 233 (by decide +kernel) (by decide +kernel)
theorem tW_235 : (Jvm.Cond.classLink "KeepForgetLaw" (13 : Nat) "java/lang/IllegalArgumentException") ∈ tb := tb_t 235 (by decide +kernel) (by decide +kernel)
theorem tW_236 : (Jvm.Cond.methodLink "KeepForgetLaw" (7 : Nat) ({ cls := "KeepForget", name := "day", desc := "(III)I" } : Jvm.MethodName)) ∈ tb := tb_t 236 (by decide +kernel) (by decide +kernel)
theorem tW_237 : (Jvm.Cond.instanceMethod ({ cls := "KeepForget", name := "day", desc := "(III)I" } : Jvm.MethodName)) ∈ tb := tb_t 237 (by decide +kernel) (by decide +kernel)
theorem tW_238 : (Jvm.Cond.selects "KeepForget" ({ cls := "KeepForget", name := "day", desc := "(III)I" } : Jvm.MethodName) ({ cls := "KeepForget", name := "day", desc := "(III)I" } : Jvm.MethodName)) ∈ tb := tb_t 238 (by decide +kernel) (by decide +kernel)
theorem tW_239 : (Jvm.Cond.code ({ cls := "KeepForget", name := "day", desc := "(III)I" } : Jvm.MethodName) prog_1_method_2_code (6 : Nat) (Option.some Jvm.ClassFile.FieldType.int)) ∈ tb := tb_t 239 (by decide +kernel) (by decide +kernel)
theorem tW_240 : (Jvm.Cond.classLink "KeepForget" (56 : Nat) "java/lang/IllegalArgumentException") ∈ tb := tb_t 240 (by decide +kernel) (by decide +kernel)
theorem tW_241 : (Jvm.Cond.instantiable "java/lang/IllegalArgumentException" (6 : Nat)) ∈ tb := tb_t 241 (by decide +kernel) (by decide +kernel)
theorem tW_249 : (Jvm.Cond.selects "java/lang/IllegalArgumentException" ({ cls := "java/lang/Throwable", name := "fillInStackTrace", desc := "(I)Ljava/lang/Throwable;" } : Jvm.MethodName) ({ cls := "java/lang/Throwable", name := "fillInStackTrace", desc := "(I)Ljava/lang/Throwable;" } : Jvm.MethodName)) ∈ tb := tb_t 249 (by decide +kernel) (by decide +kernel)
theorem tW_250 : (Jvm.Cond.selects "java/lang/IllegalArgumentException" ({ cls := "java/lang/Throwable", name := "fillInStackTrace", desc := "()Ljava/lang/Throwable;" } : Jvm.MethodName) ({ cls := "java/lang/Throwable", name := "fillInStackTrace", desc := "()Ljava/lang/Throwable;" } : Jvm.MethodName)) ∈ tb := tb_t 250 (by decide +kernel) (by decide +kernel)
theorem tW_261 : (Jvm.Cond.fieldLink "java/lang/Throwable" (198 : Nat) "java/lang/Throwable" "backtrace" "Ljava/lang/Object;") ∈ tb := tb_t 261 (by decide +kernel) (by decide +kernel)
theorem tW_263 : (Jvm.Cond.instanceMethod ({ cls := "java/lang/Throwable", name := "<init>", desc := "()V" } : Jvm.MethodName)) ∈ tb := tb_t 263 (by decide +kernel) (by decide +kernel)
theorem tW_264 : (Jvm.Cond.code ({ cls := "java/lang/Throwable", name := "<init>", desc := "()V" } : Jvm.MethodName) prog_21_method_1_code (1 : Nat) (Option.none : Option Jvm.ClassFile.FieldType)) ∈ tb := tb_t 264 (by decide +kernel) (by decide +kernel)
theorem tW_265 : (Jvm.Cond.methodLink "java/lang/Throwable" (1 : Nat) ({ cls := "java/lang/Object", name := "<init>", desc := "()V" } : Jvm.MethodName)) ∈ tb := tb_t 265 (by decide +kernel) (by decide +kernel)
theorem tW_266 : (Jvm.Cond.fieldLink "java/lang/Throwable" (13 : Nat) "java/lang/Throwable" "UNASSIGNED_STACK" "[Ljava/lang/StackTraceElement;") ∈ tb := tb_t 266 (by decide +kernel) (by decide +kernel)
theorem tW_268 : (Jvm.Cond.fieldLink "java/lang/Throwable" (20 : Nat) "java/lang/Throwable" "SUPPRESSED_SENTINEL" "Ljava/util/List;") ∈ tb := tb_t 268 (by decide +kernel) (by decide +kernel)
theorem tW_270 : (Jvm.Cond.methodLink "java/lang/Throwable" (27 : Nat) ({ cls := "java/lang/Throwable", name := "fillInStackTrace", desc := "()Ljava/lang/Throwable;" } : Jvm.MethodName)) ∈ tb := tb_t 270 (by decide +kernel) (by decide +kernel)
theorem tW_271 : (Jvm.Cond.instanceMethod ({ cls := "java/lang/Throwable", name := "fillInStackTrace", desc := "()Ljava/lang/Throwable;" } : Jvm.MethodName)) ∈ tb := tb_t 271 (by decide +kernel) (by decide +kernel)
theorem tW_273 : (Jvm.Cond.selects "java/util/NoSuchElementException" ({ cls := "java/lang/Throwable", name := "fillInStackTrace", desc := "()Ljava/lang/Throwable;" } : Jvm.MethodName) ({ cls := "java/lang/Throwable", name := "fillInStackTrace", desc := "()Ljava/lang/Throwable;" } : Jvm.MethodName)) ∈ tb := tb_t 273 (by decide +kernel) (by decide +kernel)
theorem tW_275 : (Jvm.Cond.methodLink "java/lang/Throwable" (202 : Nat) ({ cls := "java/lang/Throwable", name := "fillInStackTrace", desc := "(I)Ljava/lang/Throwable;" } : Jvm.MethodName)) ∈ tb := tb_t 275 (by decide +kernel) (by decide +kernel)
theorem tW_277 : (Jvm.Cond.instanceMethod ({ cls := "java/lang/Throwable", name := "fillInStackTrace", desc := "(I)Ljava/lang/Throwable;" } : Jvm.MethodName)) ∈ tb := tb_t 277 (by decide +kernel) (by decide +kernel)
theorem tW_278 : (Jvm.Cond.instantiable "java/lang/Throwable" (6 : Nat)) ∈ tb := tb_t 278 (by decide +kernel) (by decide +kernel)
theorem tW_281 : (Jvm.Cond.methodLink "KeepForget" (60 : Nat) ({ cls := "java/lang/IllegalArgumentException", name := "<init>", desc := "(Ljava/lang/String;)V" } : Jvm.MethodName)) ∈ tb := tb_t 281 (by decide +kernel) (by decide +kernel)
theorem tW_282 : (Jvm.Cond.instanceMethod ({ cls := "java/lang/IllegalArgumentException", name := "<init>", desc := "(Ljava/lang/String;)V" } : Jvm.MethodName)) ∈ tb := tb_t 282 (by decide +kernel) (by decide +kernel)
theorem tW_283 : (Jvm.Cond.code ({ cls := "java/lang/IllegalArgumentException", name := "<init>", desc := "(Ljava/lang/String;)V" } : Jvm.MethodName) prog_14_method_2_code (2 : Nat) (Option.none : Option Jvm.ClassFile.FieldType)) ∈ tb := tb_t 283 (by decide +kernel) (by decide +kernel)
theorem tW_284 : (Jvm.Cond.methodLink "java/lang/IllegalArgumentException" (7 : Nat) ({ cls := "java/lang/RuntimeException", name := "<init>", desc := "(Ljava/lang/String;)V" } : Jvm.MethodName)) ∈ tb := tb_t 284 (by decide +kernel) (by decide +kernel)
theorem tW_285 : (Jvm.Cond.instanceMethod ({ cls := "java/lang/RuntimeException", name := "<init>", desc := "(Ljava/lang/String;)V" } : Jvm.MethodName)) ∈ tb := tb_t 285 (by decide +kernel) (by decide +kernel)
theorem tW_286 : (Jvm.Cond.code ({ cls := "java/lang/RuntimeException", name := "<init>", desc := "(Ljava/lang/String;)V" } : Jvm.MethodName) prog_17_method_2_code (2 : Nat) (Option.none : Option Jvm.ClassFile.FieldType)) ∈ tb := tb_t 286 (by decide +kernel) (by decide +kernel)
theorem tW_287 : (Jvm.Cond.methodLink "java/lang/RuntimeException" (7 : Nat) ({ cls := "java/lang/Exception", name := "<init>", desc := "(Ljava/lang/String;)V" } : Jvm.MethodName)) ∈ tb := tb_t 287 (by decide +kernel) (by decide +kernel)
theorem tW_288 : (Jvm.Cond.instanceMethod ({ cls := "java/lang/Exception", name := "<init>", desc := "(Ljava/lang/String;)V" } : Jvm.MethodName)) ∈ tb := tb_t 288 (by decide +kernel) (by decide +kernel)
theorem tW_289 : (Jvm.Cond.code ({ cls := "java/lang/Exception", name := "<init>", desc := "(Ljava/lang/String;)V" } : Jvm.MethodName) prog_13_method_2_code (2 : Nat) (Option.none : Option Jvm.ClassFile.FieldType)) ∈ tb := tb_t 289 (by decide +kernel) (by decide +kernel)
theorem tW_290 : (Jvm.Cond.methodLink "java/lang/Exception" (7 : Nat) ({ cls := "java/lang/Throwable", name := "<init>", desc := "(Ljava/lang/String;)V" } : Jvm.MethodName)) ∈ tb := tb_t 290 (by decide +kernel) (by decide +kernel)
theorem tW_291 : (Jvm.Cond.instanceMethod ({ cls := "java/lang/Throwable", name := "<init>", desc := "(Ljava/lang/String;)V" } : Jvm.MethodName)) ∈ tb := tb_t 291 (by decide +kernel) (by decide +kernel)
theorem tW_292 : (Jvm.Cond.code ({ cls := "java/lang/Throwable", name := "<init>", desc := "(Ljava/lang/String;)V" } : Jvm.MethodName) prog_21_method_2_code (2 : Nat) (Option.none : Option Jvm.ClassFile.FieldType)) ∈ tb := tb_t 292 (by decide +kernel) (by decide +kernel)
theorem tW_293 : (Jvm.Cond.fieldLink "java/lang/Throwable" (198 : Nat) "java/lang/Throwable" "backtrace" "Ljava/lang/Object;") ∈ tb := tb_t 293 (by decide +kernel) (by decide +kernel)
theorem tW_294 : (Jvm.Cond.fieldLink "java/lang/Throwable" (31 : Nat) "java/lang/Throwable" "detailMessage" "Ljava/lang/String;") ∈ tb := tb_t 294 (by decide +kernel) (by decide +kernel)
theorem tW_295 : (Jvm.Cond.fieldLink "java/lang/Throwable" (7 : Nat) "java/lang/Throwable" "cause" "Ljava/lang/Throwable;") ∈ tb := tb_t 295 (by decide +kernel) (by decide +kernel)
theorem tW_296 : (Jvm.Cond.fieldLink "java/lang/Throwable" (17 : Nat) "java/lang/Throwable" "stackTrace" "[Ljava/lang/StackTraceElement;") ∈ tb := tb_t 296 (by decide +kernel) (by decide +kernel)
theorem tW_297 : (Jvm.Cond.fieldLink "java/lang/Throwable" (24 : Nat) "java/lang/Throwable" "suppressedExceptions" "Ljava/util/List;") ∈ tb := tb_t 297 (by decide +kernel) (by decide +kernel)
theorem tW_306 : (Jvm.Cond.methodLink "KeepForget" (63 : Nat) ({ cls := "KeepForget$Dates", name := "monthLength", desc := "(I)I" } : Jvm.MethodName)) ∈ tb := tb_t 306 (by decide +kernel) (by decide +kernel)
theorem tW_307 : (Jvm.Cond.static ({ cls := "KeepForget$Dates", name := "monthLength", desc := "(I)I" } : Jvm.MethodName)) ∈ tb := tb_t 307 (by decide +kernel) (by decide +kernel)
theorem tW_308 : (Jvm.Cond.code ({ cls := "KeepForget$Dates", name := "monthLength", desc := "(I)I" } : Jvm.MethodName) prog_2_method_3_code (1 : Nat) (Option.some Jvm.ClassFile.FieldType.int)) ∈ tb := tb_t 308 (by decide +kernel) (by decide +kernel)
theorem tW_309 : (Jvm.Cond.methodLink "KeepForget$Dates" (15 : Nat) ({ cls := "KeepForget$Dates", name := "monthStart", desc := "(I)I" } : Jvm.MethodName)) ∈ tb := tb_t 309 (by decide +kernel) (by decide +kernel)
theorem tW_310 : (Jvm.Cond.static ({ cls := "KeepForget$Dates", name := "monthStart", desc := "(I)I" } : Jvm.MethodName)) ∈ tb := tb_t 310 (by decide +kernel) (by decide +kernel)
theorem tW_311 : (Jvm.Cond.code ({ cls := "KeepForget$Dates", name := "monthStart", desc := "(I)I" } : Jvm.MethodName) prog_2_method_2_code (5 : Nat) (Option.some Jvm.ClassFile.FieldType.int)) ∈ tb := tb_t 311 (by decide +kernel) (by decide +kernel)
theorem tW_312 : (Jvm.Cond.fieldLink "KeepForget$Dates" (9 : Nat) "KeepForget$Dates" "DAYS_BEFORE" "[I") ∈ tb := tb_t 312 (by decide +kernel) (by decide +kernel)
theorem tW_315 : (Jvm.Cond.methodLink "KeepForget" (71 : Nat) ({ cls := "KeepForget$Dates", name := "monthStart", desc := "(I)I" } : Jvm.MethodName)) ∈ tb := tb_t 315 (by decide +kernel) (by decide +kernel)
theorem tW_316 : (Jvm.Cond.constant "KeepForget" (74 : Nat) (200000 : Int32)) ∈ tb := tb_t 316 (by decide +kernel) (by decide +kernel)
theorem tW_318 : (Jvm.Cond.methodLink "KeepForgetLaw" (101 : Nat) ({ cls := "KeepForgetLaw", name := "date", desc := "(LKeepForget;II[J)I" } : Jvm.MethodName)) ∈ tb := tb_t 318 (by decide +kernel) (by decide +kernel)
theorem tW_319 : (Jvm.Cond.static ({ cls := "KeepForgetLaw", name := "date", desc := "(LKeepForget;II[J)I" } : Jvm.MethodName)) ∈ tb := tb_t 319 (by decide +kernel) (by decide +kernel)
theorem tW_321 : (Jvm.Cond.methodLink "KeepForgetLaw" (15 : Nat) ({ cls := "KeepForget", name := "date", desc := "(II)I" } : Jvm.MethodName)) ∈ tb := tb_t 321 (by decide +kernel) (by decide +kernel)
theorem tW_322 : (Jvm.Cond.instanceMethod ({ cls := "KeepForget", name := "date", desc := "(II)I" } : Jvm.MethodName)) ∈ tb := tb_t 322 (by decide +kernel) (by decide +kernel)
theorem tW_323 : (Jvm.Cond.selects "KeepForget" ({ cls := "KeepForget", name := "date", desc := "(II)I" } : Jvm.MethodName) ({ cls := "KeepForget", name := "date", desc := "(II)I" } : Jvm.MethodName)) ∈ tb := tb_t 323 (by decide +kernel) (by decide +kernel)
theorem tW_324 : (Jvm.Cond.code ({ cls := "KeepForget", name := "date", desc := "(II)I" } : Jvm.MethodName) prog_1_method_3_code (4 : Nat) (Option.some Jvm.ClassFile.FieldType.int)) ∈ tb := tb_t 324 (by decide +kernel) (by decide +kernel)
theorem tW_325 : (Jvm.Cond.methodLink "KeepForget" (77 : Nat) ({ cls := "KeepForget", name := "checkDay", desc := "(I)V" } : Jvm.MethodName)) ∈ tb := tb_t 325 (by decide +kernel) (by decide +kernel)
theorem tW_326 : (Jvm.Cond.static ({ cls := "KeepForget", name := "checkDay", desc := "(I)V" } : Jvm.MethodName)) ∈ tb := tb_t 326 (by decide +kernel) (by decide +kernel)
theorem tW_327 : (Jvm.Cond.code ({ cls := "KeepForget", name := "checkDay", desc := "(I)V" } : Jvm.MethodName) prog_1_method_28_code (1 : Nat) (Option.none : Option Jvm.ClassFile.FieldType)) ∈ tb := tb_t 327 (by decide +kernel) (by decide +kernel)
theorem tW_329 : (Jvm.Cond.methodLink "KeepForget" (81 : Nat) ({ cls := "KeepForget$Dates", name := "monthOf", desc := "(I)I" } : Jvm.MethodName)) ∈ tb := tb_t 329 (by decide +kernel) (by decide +kernel)
theorem tW_330 : (Jvm.Cond.static ({ cls := "KeepForget$Dates", name := "monthOf", desc := "(I)I" } : Jvm.MethodName)) ∈ tb := tb_t 330 (by decide +kernel) (by decide +kernel)
theorem tW_331 : (Jvm.Cond.code ({ cls := "KeepForget$Dates", name := "monthOf", desc := "(I)I" } : Jvm.MethodName) prog_2_method_4_code (3 : Nat) (Option.some Jvm.ClassFile.FieldType.int)) ∈ tb := tb_t 331 (by decide +kernel) (by decide +kernel)
theorem tW_332 : (Jvm.Cond.constantLong "KeepForget$Dates" (19 : Nat) (4800 : Int64)) ∈ tb := tb_t 332 (by decide +kernel) (by decide +kernel)
theorem tW_333 : (Jvm.Cond.constantLong "KeepForget$Dates" (21 : Nat) (146097 : Int64)) ∈ tb := tb_t 333 (by decide +kernel) (by decide +kernel)
theorem tW_334 : (Jvm.Cond.methodLink "KeepForget$Dates" (23 : Nat) ({ cls := "java/lang/Math", name := "max", desc := "(II)I" } : Jvm.MethodName)) ∈ tb := tb_t 334 (by decide +kernel) (by decide +kernel)
theorem tW_335 : (Jvm.Cond.static ({ cls := "java/lang/Math", name := "max", desc := "(II)I" } : Jvm.MethodName)) ∈ tb := tb_t 335 (by decide +kernel) (by decide +kernel)
theorem tW_336 : (Jvm.Cond.code ({ cls := "java/lang/Math", name := "max", desc := "(II)I" } : Jvm.MethodName) prog_16_method_65_code (2 : Nat) (Option.some Jvm.ClassFile.FieldType.int)) ∈ tb := tb_t 336 (by decide +kernel) (by decide +kernel)
theorem tW_338 : (Jvm.Cond.methodLink "KeepForgetLaw" (105 : Nat) ({ cls := "KeepForgetLaw", name := "later", desc := "(LKeepForget;II[J)I" } : Jvm.MethodName)) ∈ tb := tb_t 338 (by decide +kernel) (by decide +kernel)
theorem tW_339 : (Jvm.Cond.static ({ cls := "KeepForgetLaw", name := "later", desc := "(LKeepForget;II[J)I" } : Jvm.MethodName)) ∈ tb := tb_t 339 (by decide +kernel) (by decide +kernel)
theorem tW_341 : (Jvm.Cond.methodLink "KeepForgetLaw" (19 : Nat) ({ cls := "KeepForget", name := "later", desc := "(II)I" } : Jvm.MethodName)) ∈ tb := tb_t 341 (by decide +kernel) (by decide +kernel)
theorem tW_342 : (Jvm.Cond.instanceMethod ({ cls := "KeepForget", name := "later", desc := "(II)I" } : Jvm.MethodName)) ∈ tb := tb_t 342 (by decide +kernel) (by decide +kernel)
theorem tW_343 : (Jvm.Cond.selects "KeepForget" ({ cls := "KeepForget", name := "later", desc := "(II)I" } : Jvm.MethodName) ({ cls := "KeepForget", name := "later", desc := "(II)I" } : Jvm.MethodName)) ∈ tb := tb_t 343 (by decide +kernel) (by decide +kernel)
theorem tW_344 : (Jvm.Cond.code ({ cls := "KeepForget", name := "later", desc := "(II)I" } : Jvm.MethodName) prog_1_method_4_code (3 : Nat) (Option.some Jvm.ClassFile.FieldType.int)) ∈ tb := tb_t 344 (by decide +kernel) (by decide +kernel)
theorem tW_345 : (Jvm.Cond.constant "KeepForget" (86 : Nat) (119988 : Int32)) ∈ tb := tb_t 345 (by decide +kernel) (by decide +kernel)
theorem tW_347 : (Jvm.Cond.methodLink "KeepForget" (89 : Nat) ({ cls := "KeepForget$Dates", name := "monthsAfter", desc := "(II)I" } : Jvm.MethodName)) ∈ tb := tb_t 347 (by decide +kernel) (by decide +kernel)
theorem tW_348 : (Jvm.Cond.static ({ cls := "KeepForget$Dates", name := "monthsAfter", desc := "(II)I" } : Jvm.MethodName)) ∈ tb := tb_t 348 (by decide +kernel) (by decide +kernel)
theorem tW_349 : (Jvm.Cond.code ({ cls := "KeepForget$Dates", name := "monthsAfter", desc := "(II)I" } : Jvm.MethodName) prog_2_method_5_code (5 : Nat) (Option.some Jvm.ClassFile.FieldType.int)) ∈ tb := tb_t 349 (by decide +kernel) (by decide +kernel)
theorem tW_350 : (Jvm.Cond.methodLink "KeepForget$Dates" (29 : Nat) ({ cls := "KeepForget$Dates", name := "monthOf", desc := "(I)I" } : Jvm.MethodName)) ∈ tb := tb_t 350 (by decide +kernel) (by decide +kernel)
theorem tW_351 : (Jvm.Cond.methodLink "KeepForget$Dates" (32 : Nat) ({ cls := "KeepForget$Dates", name := "monthLength", desc := "(I)I" } : Jvm.MethodName)) ∈ tb := tb_t 351 (by decide +kernel) (by decide +kernel)
theorem tW_352 : (Jvm.Cond.methodLink "KeepForget$Dates" (35 : Nat) ({ cls := "java/lang/Math", name := "min", desc := "(II)I" } : Jvm.MethodName)) ∈ tb := tb_t 352 (by decide +kernel) (by decide +kernel)
theorem tW_353 : (Jvm.Cond.static ({ cls := "java/lang/Math", name := "min", desc := "(II)I" } : Jvm.MethodName)) ∈ tb := tb_t 353 (by decide +kernel) (by decide +kernel)
theorem tW_354 : (Jvm.Cond.code ({ cls := "java/lang/Math", name := "min", desc := "(II)I" } : Jvm.MethodName) prog_16_method_69_code (2 : Nat) (Option.some Jvm.ClassFile.FieldType.int)) ∈ tb := tb_t 354 (by decide +kernel) (by decide +kernel)
theorem tW_355 : (Jvm.Cond.constant "KeepForget$Dates" (38 : Nat) (200000 : Int32)) ∈ tb := tb_t 355 (by decide +kernel) (by decide +kernel)
theorem tW_356 : (Jvm.Cond.constant "KeepForget$Dates" (39 : Nat) (999999 : Int32)) ∈ tb := tb_t 356 (by decide +kernel) (by decide +kernel)
theorem tW_357 : (Jvm.Cond.methodLink "KeepForgetLaw" (113 : Nat) ({ cls := "KeepForgetLaw", name := "rules", desc := "(LKeepForget;II[J)I" } : Jvm.MethodName)) ∈ tb := tb_t 357 (by decide +kernel) (by decide +kernel)
theorem tW_358 : (Jvm.Cond.static ({ cls := "KeepForgetLaw", name := "rules", desc := "(LKeepForget;II[J)I" } : Jvm.MethodName)) ∈ tb := tb_t 358 (by decide +kernel) (by decide +kernel)
theorem tW_360 : (Jvm.Cond.methodLink "KeepForgetLaw" (22 : Nat) ({ cls := "KeepForget", name := "rules", desc := "(II)I" } : Jvm.MethodName)) ∈ tb := tb_t 360 (by decide +kernel) (by decide +kernel)
theorem tW_361 : (Jvm.Cond.instanceMethod ({ cls := "KeepForget", name := "rules", desc := "(II)I" } : Jvm.MethodName)) ∈ tb := tb_t 361 (by decide +kernel) (by decide +kernel)
theorem tW_362 : (Jvm.Cond.selects "KeepForget" ({ cls := "KeepForget", name := "rules", desc := "(II)I" } : Jvm.MethodName) ({ cls := "KeepForget", name := "rules", desc := "(II)I" } : Jvm.MethodName)) ∈ tb := tb_t 362 (by decide +kernel) (by decide +kernel)
theorem tW_363 : (Jvm.Cond.code ({ cls := "KeepForget", name := "rules", desc := "(II)I" } : Jvm.MethodName) prog_1_method_6_code (5 : Nat) (Option.some Jvm.ClassFile.FieldType.int)) ∈ tb := tb_t 363 (by decide +kernel) (by decide +kernel)
theorem tW_365 : (Jvm.Cond.instantiable "KeepForget$RuleSet" (5 : Nat)) ∈ tb := tb_t 365 (by decide +kernel) (by decide +kernel)
theorem tW_366 : (Jvm.Cond.methodLink "KeepForget" (104 : Nat) ({ cls := "KeepForget$RuleSet", name := "<init>", desc := "(I)V" } : Jvm.MethodName)) ∈ tb := tb_t 366 (by decide +kernel) (by decide +kernel)
theorem tW_367 : (Jvm.Cond.instanceMethod ({ cls := "KeepForget$RuleSet", name := "<init>", desc := "(I)V" } : Jvm.MethodName)) ∈ tb := tb_t 367 (by decide +kernel) (by decide +kernel)
theorem tW_368 : (Jvm.Cond.code ({ cls := "KeepForget$RuleSet", name := "<init>", desc := "(I)V" } : Jvm.MethodName) prog_7_method_1_code (2 : Nat) (Option.none : Option Jvm.ClassFile.FieldType)) ∈ tb := tb_t 368 (by decide +kernel) (by decide +kernel)
theorem tW_369 : (Jvm.Cond.methodLink "KeepForget$RuleSet" (3 : Nat) ({ cls := "java/lang/Object", name := "<init>", desc := "()V" } : Jvm.MethodName)) ∈ tb := tb_t 369 (by decide +kernel) (by decide +kernel)
theorem tW_370 : (Jvm.Cond.classLink "KeepForget$RuleSet" (15 : Nat) "KeepForget$Rule") ∈ tb := tb_t 370 (by decide +kernel) (by decide +kernel)
theorem tW_372 : (Jvm.Cond.fieldLink "KeepForget$RuleSet" (9 : Nat) "KeepForget$RuleSet" "day" "I") ∈ tb := tb_t 372 (by decide +kernel) (by decide +kernel)
theorem tW_373 : (Jvm.Cond.fieldLink "KeepForget" (309 : Nat) "KeepForget$RuleSet" "day" "I") ∈ tb := tb_t 373 (by decide +kernel) (by decide +kernel)
theorem tW_374 : (Jvm.Cond.fieldLink "KeepForget$RuleSet" (17 : Nat) "KeepForget$RuleSet" "rules" "[LKeepForget$Rule;") ∈ tb := tb_t 374 (by decide +kernel) (by decide +kernel)
theorem tW_375 : (Jvm.Cond.fieldLink "KeepForget$Span" (53 : Nat) "KeepForget$RuleSet" "rules" "[LKeepForget$Rule;") ∈ tb := tb_t 375 (by decide +kernel) (by decide +kernel)
theorem tW_376 : (Jvm.Cond.fieldLink "KeepForget" (255 : Nat) "KeepForget$RuleSet" "rules" "[LKeepForget$Rule;") ∈ tb := tb_t 376 (by decide +kernel) (by decide +kernel)
theorem tW_377 : (Jvm.Cond.fieldLink "KeepForget$RuleSet" (25 : Nat) "KeepForget$RuleSet" "ruleCount" "I") ∈ tb := tb_t 377 (by decide +kernel) (by decide +kernel)
theorem tW_378 : (Jvm.Cond.fieldLink "KeepForget" (250 : Nat) "KeepForget$RuleSet" "ruleCount" "I") ∈ tb := tb_t 378 (by decide +kernel) (by decide +kernel)
theorem tW_379 : (Jvm.Cond.fieldLink "KeepForget$RuleSet" (21 : Nat) "KeepForget$RuleSet" "turns" "[I") ∈ tb := tb_t 379 (by decide +kernel) (by decide +kernel)
theorem tW_380 : (Jvm.Cond.fieldLink "KeepForget$Span" (50 : Nat) "KeepForget$RuleSet" "turns" "[I") ∈ tb := tb_t 380 (by decide +kernel) (by decide +kernel)
theorem tW_381 : (Jvm.Cond.fieldLink "KeepForget$Span" (45 : Nat) "KeepForget$RuleSet" "turnCount" "I") ∈ tb := tb_t 381 (by decide +kernel) (by decide +kernel)
theorem tW_382 : (Jvm.Cond.fieldLink "KeepForget$RuleSet" (42 : Nat) "KeepForget$RuleSet" "turnCount" "I") ∈ tb := tb_t 382 (by decide +kernel) (by decide +kernel)
theorem tW_394 : (Jvm.Cond.classLink "KeepForget" (106 : Nat) "KeepForget$RuleReader") ∈ tb := tb_t 394 (by decide +kernel) (by decide +kernel)
theorem tW_395 : (Jvm.Cond.instantiable "KeepForget$RuleReader" (7 : Nat)) ∈ tb := tb_t 395 (by decide +kernel) (by decide +kernel)
theorem tW_396 : (Jvm.Cond.methodLink "KeepForget" (108 : Nat) ({ cls := "KeepForget$RuleReader", name := "<init>", desc := "([BI)V" } : Jvm.MethodName)) ∈ tb := tb_t 396 (by decide +kernel) (by decide +kernel)
theorem tW_397 : (Jvm.Cond.instanceMethod ({ cls := "KeepForget$RuleReader", name := "<init>", desc := "([BI)V" } : Jvm.MethodName)) ∈ tb := tb_t 397 (by decide +kernel) (by decide +kernel)
theorem tW_398 : (Jvm.Cond.code ({ cls := "KeepForget$RuleReader", name := "<init>", desc := "([BI)V" } : Jvm.MethodName) prog_6_method_1_code (3 : Nat) (Option.none : Option Jvm.ClassFile.FieldType)) ∈ tb := tb_t 398 (by decide +kernel) (by decide +kernel)
theorem tW_399 : (Jvm.Cond.methodLink "KeepForget$RuleReader" (3 : Nat) ({ cls := "java/lang/Object", name := "<init>", desc := "()V" } : Jvm.MethodName)) ∈ tb := tb_t 399 (by decide +kernel) (by decide +kernel)
theorem tW_400 : (Jvm.Cond.methodLink "KeepForget$RuleReader" (15 : Nat) ({ cls := "java/lang/Math", name := "min", desc := "(II)I" } : Jvm.MethodName)) ∈ tb := tb_t 400 (by decide +kernel) (by decide +kernel)
theorem tW_401 : (Jvm.Cond.fieldLink "KeepForget$RuleReader" (9 : Nat) "KeepForget$RuleReader" "text" "[B") ∈ tb := tb_t 401 (by decide +kernel) (by decide +kernel)
theorem tW_402 : (Jvm.Cond.fieldLink "KeepForget$RuleReader" (21 : Nat) "KeepForget$RuleReader" "length" "I") ∈ tb := tb_t 402 (by decide +kernel) (by decide +kernel)
theorem tW_403 : (Jvm.Cond.fieldLink "KeepForget$RuleReader" (28 : Nat) "KeepForget$RuleReader" "token" "I") ∈ tb := tb_t 403 (by decide +kernel) (by decide +kernel)
theorem tW_404 : (Jvm.Cond.fieldLink "KeepForget$RuleReader" (158 : Nat) "KeepForget$RuleReader" "start" "I") ∈ tb := tb_t 404 (by decide +kernel) (by decide +kernel)
theorem tW_405 : (Jvm.Cond.fieldLink "KeepForget$RuleReader" (156 : Nat) "KeepForget$RuleReader" "end" "I") ∈ tb := tb_t 405 (by decide +kernel) (by decide +kernel)
theorem tW_406 : (Jvm.Cond.fieldLink "KeepForget" (115 : Nat) "KeepForget$RuleReader" "fault" "I") ∈ tb := tb_t 406 (by decide +kernel) (by decide +kernel)
theorem tW_407 : (Jvm.Cond.fieldLink "KeepForget$RuleReader" (161 : Nat) "KeepForget$RuleReader" "fault" "I") ∈ tb := tb_t 407 (by decide +kernel) (by decide +kernel)
theorem tW_408 : (Jvm.Cond.fieldLink "KeepForget" (118 : Nat) "KeepForget$RuleReader" "faultPlace" "I") ∈ tb := tb_t 408 (by decide +kernel) (by decide +kernel)
theorem tW_409 : (Jvm.Cond.fieldLink "KeepForget$RuleReader" (164 : Nat) "KeepForget$RuleReader" "faultPlace" "I") ∈ tb := tb_t 409 (by decide +kernel) (by decide +kernel)
theorem tW_425 : (Jvm.Cond.methodLink "KeepForget" (111 : Nat) ({ cls := "KeepForget$RuleReader", name := "readInto", desc := "(LKeepForget$RuleSet;)V" } : Jvm.MethodName)) ∈ tb := tb_t 425 (by decide +kernel) (by decide +kernel)
theorem tW_426 : (Jvm.Cond.instanceMethod ({ cls := "KeepForget$RuleReader", name := "readInto", desc := "(LKeepForget$RuleSet;)V" } : Jvm.MethodName)) ∈ tb := tb_t 426 (by decide +kernel) (by decide +kernel)
theorem tW_427 : (Jvm.Cond.selects "KeepForget$RuleReader" ({ cls := "KeepForget$RuleReader", name := "readInto", desc := "(LKeepForget$RuleSet;)V" } : Jvm.MethodName) ({ cls := "KeepForget$RuleReader", name := "readInto", desc := "(LKeepForget$RuleSet;)V" } : Jvm.MethodName)) ∈ tb := tb_t 427 (by decide +kernel) (by decide +kernel)
theorem tW_428 : (Jvm.Cond.code ({ cls := "KeepForget$RuleReader", name := "readInto", desc := "(LKeepForget$RuleSet;)V" } : Jvm.MethodName) prog_6_method_2_code (3 : Nat) (Option.none : Option Jvm.ClassFile.FieldType)) ∈ tb := tb_t 428 (by decide +kernel) (by decide +kernel)
theorem tW_429 : (Jvm.Cond.methodLink "KeepForget$RuleReader" (25 : Nat) ({ cls := "KeepForget$RuleReader", name := "next", desc := "()V" } : Jvm.MethodName)) ∈ tb := tb_t 429 (by decide +kernel) (by decide +kernel)
theorem tW_431 : (Jvm.Cond.instanceMethod ({ cls := "KeepForget$RuleReader", name := "next", desc := "()V" } : Jvm.MethodName)) ∈ tb := tb_t 431 (by decide +kernel) (by decide +kernel)
theorem tW_432 : (Jvm.Cond.code ({ cls := "KeepForget$RuleReader", name := "next", desc := "()V" } : Jvm.MethodName) prog_6_method_18_code (2 : Nat) (Option.none : Option Jvm.ClassFile.FieldType)) ∈ tb := tb_t 432 (by decide +kernel) (by decide +kernel)
theorem tW_433 : (Jvm.Cond.methodLink "KeepForget$RuleReader" (175 : Nat) ({ cls := "KeepForget$RuleReader", name := "isLetter", desc := "(I)Z" } : Jvm.MethodName)) ∈ tb := tb_t 433 (by decide +kernel) (by decide +kernel)
theorem tW_434 : (Jvm.Cond.static ({ cls := "KeepForget$RuleReader", name := "isLetter", desc := "(I)Z" } : Jvm.MethodName)) ∈ tb := tb_t 434 (by decide +kernel) (by decide +kernel)
theorem tW_435 : (Jvm.Cond.code ({ cls := "KeepForget$RuleReader", name := "isLetter", desc := "(I)Z" } : Jvm.MethodName) prog_6_method_19_code (1 : Nat) (Option.some Jvm.ClassFile.FieldType.boolean)) ∈ tb := tb_t 435 (by decide +kernel) (by decide +kernel)
theorem tW_436 : (Jvm.Cond.methodLink "KeepForget$RuleReader" (178 : Nat) ({ cls := "KeepForget$RuleReader", name := "isDigit", desc := "(I)Z" } : Jvm.MethodName)) ∈ tb := tb_t 436 (by decide +kernel) (by decide +kernel)
theorem tW_437 : (Jvm.Cond.static ({ cls := "KeepForget$RuleReader", name := "isDigit", desc := "(I)Z" } : Jvm.MethodName)) ∈ tb := tb_t 437 (by decide +kernel) (by decide +kernel)
theorem tW_438 : (Jvm.Cond.code ({ cls := "KeepForget$RuleReader", name := "isDigit", desc := "(I)Z" } : Jvm.MethodName) prog_6_method_20_code (1 : Nat) (Option.some Jvm.ClassFile.FieldType.boolean)) ∈ tb := tb_t 438 (by decide +kernel) (by decide +kernel)
theorem tW_439 : (Jvm.Cond.methodLink "KeepForget$RuleReader" (31 : Nat) ({ cls := "KeepForget$RuleReader", name := "readRule", desc := "(LKeepForget$RuleSet;)Z" } : Jvm.MethodName)) ∈ tb := tb_t 439 (by decide +kernel) (by decide +kernel)
theorem tW_441 : (Jvm.Cond.instanceMethod ({ cls := "KeepForget$RuleReader", name := "readRule", desc := "(LKeepForget$RuleSet;)Z" } : Jvm.MethodName)) ∈ tb := tb_t 441 (by decide +kernel) (by decide +kernel)
theorem tW_442 : (Jvm.Cond.code ({ cls := "KeepForget$RuleReader", name := "readRule", desc := "(LKeepForget$RuleSet;)Z" } : Jvm.MethodName) prog_6_method_3_code (4 : Nat) (Option.some Jvm.ClassFile.FieldType.boolean)) ∈ tb := tb_t 442 (by decide +kernel) (by decide +kernel)
theorem tW_443 : (Jvm.Cond.methodLink "KeepForget$RuleReader" (35 : Nat) ({ cls := "KeepForget$RuleReader", name := "ruleSort", desc := "()I" } : Jvm.MethodName)) ∈ tb := tb_t 443 (by decide +kernel) (by decide +kernel)
theorem tW_445 : (Jvm.Cond.instanceMethod ({ cls := "KeepForget$RuleReader", name := "ruleSort", desc := "()I" } : Jvm.MethodName)) ∈ tb := tb_t 445 (by decide +kernel) (by decide +kernel)
theorem tW_446 : (Jvm.Cond.code ({ cls := "KeepForget$RuleReader", name := "ruleSort", desc := "()I" } : Jvm.MethodName) prog_6_method_4_code (1 : Nat) (Option.some Jvm.ClassFile.FieldType.int)) ∈ tb := tb_t 446 (by decide +kernel) (by decide +kernel)
theorem tW_448 : (Jvm.Cond.methodLink "KeepForget$RuleReader" (80 : Nat) ({ cls := "KeepForget$RuleReader", name := "isWord", desc := "(Ljava/lang/String;)Z" } : Jvm.MethodName)) ∈ tb := tb_t 448 (by decide +kernel) (by decide +kernel)
theorem tW_450 : (Jvm.Cond.instanceMethod ({ cls := "KeepForget$RuleReader", name := "isWord", desc := "(Ljava/lang/String;)Z" } : Jvm.MethodName)) ∈ tb := tb_t 450 (by decide +kernel) (by decide +kernel)
theorem tW_451 : (Jvm.Cond.code ({ cls := "KeepForget$RuleReader", name := "isWord", desc := "(Ljava/lang/String;)Z" } : Jvm.MethodName) prog_6_method_14_code (3 : Nat) (Option.some Jvm.ClassFile.FieldType.boolean)) ∈ tb := tb_t 451 (by decide +kernel) (by decide +kernel)
theorem tW_452 : (Jvm.Cond.methodLink "KeepForget$RuleReader" (167 : Nat) ({ cls := "java/lang/String", name := "length", desc := "()I" } : Jvm.MethodName)) ∈ tb := tb_t 452 (by decide +kernel) (by decide +kernel)
theorem tW_453 : (Jvm.Cond.instanceMethod ({ cls := "java/lang/String", name := "length", desc := "()I" } : Jvm.MethodName)) ∈ tb := tb_t 453 (by decide +kernel) (by decide +kernel)
theorem tW_454 : (Jvm.Cond.selects "java/lang/String" ({ cls := "java/lang/String", name := "length", desc := "()I" } : Jvm.MethodName) ({ cls := "java/lang/String", name := "length", desc := "()I" } : Jvm.MethodName)) ∈ tb := tb_t 454 (by decide +kernel) (by decide +kernel)
theorem tW_455 : (Jvm.Cond.code ({ cls := "java/lang/String", name := "length", desc := "()I" } : Jvm.MethodName) prog_18_method_54_code (1 : Nat) (Option.some Jvm.ClassFile.FieldType.int)) ∈ tb := tb_t 455 (by decide +kernel) (by decide +kernel)
theorem tW_456 : (Jvm.Cond.methodLink "java/lang/String" (335 : Nat) ({ cls := "java/lang/String", name := "coder", desc := "()B" } : Jvm.MethodName)) ∈ tb := tb_t 456 (by decide +kernel) (by decide +kernel)
theorem tW_457 : (Jvm.Cond.instanceMethod ({ cls := "java/lang/String", name := "coder", desc := "()B" } : Jvm.MethodName)) ∈ tb := tb_t 457 (by decide +kernel) (by decide +kernel)
theorem tW_458 : (Jvm.Cond.selects "java/lang/String" ({ cls := "java/lang/String", name := "coder", desc := "()B" } : Jvm.MethodName) ({ cls := "java/lang/String", name := "coder", desc := "()B" } : Jvm.MethodName)) ∈ tb := tb_t 458 (by decide +kernel) (by decide +kernel)
theorem tW_459 : (Jvm.Cond.code ({ cls := "java/lang/String", name := "coder", desc := "()B" } : Jvm.MethodName) prog_18_method_152_code (1 : Nat) (Option.some Jvm.ClassFile.FieldType.byte)) ∈ tb := tb_t 459 (by decide +kernel) (by decide +kernel)
theorem tW_460 : (Jvm.Cond.fieldLink "java/lang/String" (38 : Nat) "java/lang/String" "COMPACT_STRINGS" "Z") ∈ tb := tb_t 460 (by decide +kernel) (by decide +kernel)
theorem tW_462 : (Jvm.Cond.methodLink "KeepForget$RuleReader" (171 : Nat) ({ cls := "java/lang/String", name := "charAt", desc := "(I)C" } : Jvm.MethodName)) ∈ tb := tb_t 462 (by decide +kernel) (by decide +kernel)
theorem tW_463 : (Jvm.Cond.instanceMethod ({ cls := "java/lang/String", name := "charAt", desc := "(I)C" } : Jvm.MethodName)) ∈ tb := tb_t 463 (by decide +kernel) (by decide +kernel)
theorem tW_464 : (Jvm.Cond.selects "java/lang/String" ({ cls := "java/lang/String", name := "charAt", desc := "(I)C" } : Jvm.MethodName) ({ cls := "java/lang/String", name := "charAt", desc := "(I)C" } : Jvm.MethodName)) ∈ tb := tb_t 464 (by decide +kernel) (by decide +kernel)
theorem tW_465 : (Jvm.Cond.code ({ cls := "java/lang/String", name := "charAt", desc := "(I)C" } : Jvm.MethodName) prog_18_method_56_code (2 : Nat) (Option.some Jvm.ClassFile.FieldType.char)) ∈ tb := tb_t 465 (by decide +kernel) (by decide +kernel)
theorem tW_466 : (Jvm.Cond.methodLink "java/lang/String" (492 : Nat) ({ cls := "java/lang/String", name := "isLatin1", desc := "()Z" } : Jvm.MethodName)) ∈ tb := tb_t 466 (by decide +kernel) (by decide +kernel)
theorem tW_467 : (Jvm.Cond.instanceMethod ({ cls := "java/lang/String", name := "isLatin1", desc := "()Z" } : Jvm.MethodName)) ∈ tb := tb_t 467 (by decide +kernel) (by decide +kernel)
theorem tW_468 : (Jvm.Cond.selects "java/lang/String" ({ cls := "java/lang/String", name := "isLatin1", desc := "()Z" } : Jvm.MethodName) ({ cls := "java/lang/String", name := "isLatin1", desc := "()Z" } : Jvm.MethodName)) ∈ tb := tb_t 468 (by decide +kernel) (by decide +kernel)
theorem tW_469 : (Jvm.Cond.code ({ cls := "java/lang/String", name := "isLatin1", desc := "()Z" } : Jvm.MethodName) prog_18_method_154_code (1 : Nat) (Option.some Jvm.ClassFile.FieldType.boolean)) ∈ tb := tb_t 469 (by decide +kernel) (by decide +kernel)
theorem tW_470 : (Jvm.Cond.methodLink "java/lang/String" (495 : Nat) ({ cls := "java/lang/StringLatin1", name := "charAt", desc := "([BI)C" } : Jvm.MethodName)) ∈ tb := tb_t 470 (by decide +kernel) (by decide +kernel)
theorem tW_471 : (Jvm.Cond.static ({ cls := "java/lang/StringLatin1", name := "charAt", desc := "([BI)C" } : Jvm.MethodName)) ∈ tb := tb_t 471 (by decide +kernel) (by decide +kernel)
theorem tW_472 : (Jvm.Cond.code ({ cls := "java/lang/StringLatin1", name := "charAt", desc := "([BI)C" } : Jvm.MethodName) prog_19_method_2_code (2 : Nat) (Option.some Jvm.ClassFile.FieldType.char)) ∈ tb := tb_t 472 (by decide +kernel) (by decide +kernel)
theorem tW_473 : (Jvm.Cond.methodLink "java/lang/StringLatin1" (9 : Nat) ({ cls := "java/lang/String", name := "checkIndex", desc := "(II)V" } : Jvm.MethodName)) ∈ tb := tb_t 473 (by decide +kernel) (by decide +kernel)
theorem tW_474 : (Jvm.Cond.static ({ cls := "java/lang/String", name := "checkIndex", desc := "(II)V" } : Jvm.MethodName)) ∈ tb := tb_t 474 (by decide +kernel) (by decide +kernel)
theorem tW_475 : (Jvm.Cond.code ({ cls := "java/lang/String", name := "checkIndex", desc := "(II)V" } : Jvm.MethodName) prog_18_method_155_code (2 : Nat) (Option.none : Option Jvm.ClassFile.FieldType)) ∈ tb := tb_t 475 (by decide +kernel) (by decide +kernel)
theorem tW_476 : (Jvm.Cond.fieldLink "java/lang/String" (1053 : Nat) "jdk/internal/util/Preconditions" "SIOOBE_FORMATTER" "Ljava/util/function/BiFunction;") ∈ tb := tb_t 476 (by decide +kernel) (by decide +kernel)
theorem tW_478 : (Jvm.Cond.methodLink "java/lang/String" (1059 : Nat) ({ cls := "jdk/internal/util/Preconditions", name := "checkIndex", desc := "(IILjava/util/function/BiFunction;)I" } : Jvm.MethodName)) ∈ tb := tb_t 478 (by decide +kernel) (by decide +kernel)
theorem tW_479 : (Jvm.Cond.static ({ cls := "jdk/internal/util/Preconditions", name := "checkIndex", desc := "(IILjava/util/function/BiFunction;)I" } : Jvm.MethodName)) ∈ tb := tb_t 479 (by decide +kernel) (by decide +kernel)
theorem tW_480 : (Jvm.Cond.code ({ cls := "jdk/internal/util/Preconditions", name := "checkIndex", desc := "(IILjava/util/function/BiFunction;)I" } : Jvm.MethodName) prog_23_method_11_code (3 : Nat) (Option.some Jvm.ClassFile.FieldType.int)) ∈ tb := tb_t 480 (by decide +kernel) (by decide +kernel)
theorem tW_481 : (Jvm.Cond.methodLink "java/lang/String" (498 : Nat) ({ cls := "java/lang/StringUTF16", name := "charAt", desc := "([BI)C" } : Jvm.MethodName)) ∈ tb := tb_t 481 (by decide +kernel) (by decide +kernel)
theorem tW_482 : (Jvm.Cond.static ({ cls := "java/lang/StringUTF16", name := "charAt", desc := "([BI)C" } : Jvm.MethodName)) ∈ tb := tb_t 482 (by decide +kernel) (by decide +kernel)
theorem tW_483 : (Jvm.Cond.code ({ cls := "java/lang/StringUTF16", name := "charAt", desc := "([BI)C" } : Jvm.MethodName) prog_20_method_83_code (2 : Nat) (Option.some Jvm.ClassFile.FieldType.char)) ∈ tb := tb_t 483 (by decide +kernel) (by decide +kernel)
theorem tW_484 : (Jvm.Cond.methodLink "java/lang/StringUTF16" (67 : Nat) ({ cls := "java/lang/StringUTF16", name := "checkIndex", desc := "(I[B)V" } : Jvm.MethodName)) ∈ tb := tb_t 484 (by decide +kernel) (by decide +kernel)
theorem tW_485 : (Jvm.Cond.static ({ cls := "java/lang/StringUTF16", name := "checkIndex", desc := "(I[B)V" } : Jvm.MethodName)) ∈ tb := tb_t 485 (by decide +kernel) (by decide +kernel)
theorem tW_486 : (Jvm.Cond.code ({ cls := "java/lang/StringUTF16", name := "checkIndex", desc := "(I[B)V" } : Jvm.MethodName) prog_20_method_91_code (2 : Nat) (Option.none : Option Jvm.ClassFile.FieldType)) ∈ tb := tb_t 486 (by decide +kernel) (by decide +kernel)
theorem tW_487 : (Jvm.Cond.methodLink "java/lang/StringUTF16" (48 : Nat) ({ cls := "java/lang/StringUTF16", name := "length", desc := "([B)I" } : Jvm.MethodName)) ∈ tb := tb_t 487 (by decide +kernel) (by decide +kernel)
theorem tW_488 : (Jvm.Cond.static ({ cls := "java/lang/StringUTF16", name := "length", desc := "([B)I" } : Jvm.MethodName)) ∈ tb := tb_t 488 (by decide +kernel) (by decide +kernel)
theorem tW_489 : (Jvm.Cond.code ({ cls := "java/lang/StringUTF16", name := "length", desc := "([B)I" } : Jvm.MethodName) prog_20_method_6_code (1 : Nat) (Option.some Jvm.ClassFile.FieldType.int)) ∈ tb := tb_t 489 (by decide +kernel) (by decide +kernel)
theorem tW_490 : (Jvm.Cond.methodLink "java/lang/StringUTF16" (414 : Nat) ({ cls := "java/lang/String", name := "checkIndex", desc := "(II)V" } : Jvm.MethodName)) ∈ tb := tb_t 490 (by decide +kernel) (by decide +kernel)
theorem tW_491 : (Jvm.Cond.methodLink "java/lang/StringUTF16" (71 : Nat) ({ cls := "java/lang/StringUTF16", name := "getChar", desc := "([BI)C" } : Jvm.MethodName)) ∈ tb := tb_t 491 (by decide +kernel) (by decide +kernel)
theorem tW_492 : (Jvm.Cond.static ({ cls := "java/lang/StringUTF16", name := "getChar", desc := "([BI)C" } : Jvm.MethodName)) ∈ tb := tb_t 492 (by decide +kernel) (by decide +kernel)
theorem tW_493 : (Jvm.Cond.code ({ cls := "java/lang/StringUTF16", name := "getChar", desc := "([BI)C" } : Jvm.MethodName) prog_20_method_5_code (2 : Nat) (Option.some Jvm.ClassFile.FieldType.char)) ∈ tb := tb_t 493 (by decide +kernel) (by decide +kernel)
theorem tW_494 : (Jvm.Cond.fieldLink "java/lang/StringUTF16" (44 : Nat) "java/lang/StringUTF16" "$assertionsDisabled" "Z") ∈ tb := tb_t 494 (by decide +kernel) (by decide +kernel)
theorem tW_496 : (Jvm.Cond.fieldLink "java/lang/StringUTF16" (59 : Nat) "java/lang/StringUTF16" "HI_BYTE_SHIFT" "I") ∈ tb := tb_t 496 (by decide +kernel) (by decide +kernel)
theorem tW_498 : (Jvm.Cond.fieldLink "java/lang/StringUTF16" (63 : Nat) "java/lang/StringUTF16" "LO_BYTE_SHIFT" "I") ∈ tb := tb_t 498 (by decide +kernel) (by decide +kernel)
theorem tW_502 : (Jvm.Cond.methodLink "KeepForget$RuleReader" (39 : Nat) ({ cls := "KeepForget$RuleReader", name := "fail", desc := "(I)Z" } : Jvm.MethodName)) ∈ tb := tb_t 502 (by decide +kernel) (by decide +kernel)
theorem tW_504 : (Jvm.Cond.instanceMethod ({ cls := "KeepForget$RuleReader", name := "fail", desc := "(I)Z" } : Jvm.MethodName)) ∈ tb := tb_t 504 (by decide +kernel) (by decide +kernel)
theorem tW_505 : (Jvm.Cond.code ({ cls := "KeepForget$RuleReader", name := "fail", desc := "(I)Z" } : Jvm.MethodName) prog_6_method_13_code (2 : Nat) (Option.some Jvm.ClassFile.FieldType.boolean)) ∈ tb := tb_t 505 (by decide +kernel) (by decide +kernel)
theorem tW_506 : (Jvm.Cond.methodLink "KeepForget$RuleReader" (43 : Nat) ({ cls := "KeepForget$RuleSet", name := "isFull", desc := "()Z" } : Jvm.MethodName)) ∈ tb := tb_t 506 (by decide +kernel) (by decide +kernel)
theorem tW_507 : (Jvm.Cond.instanceMethod ({ cls := "KeepForget$RuleSet", name := "isFull", desc := "()Z" } : Jvm.MethodName)) ∈ tb := tb_t 507 (by decide +kernel) (by decide +kernel)
theorem tW_508 : (Jvm.Cond.selects "KeepForget$RuleSet" ({ cls := "KeepForget$RuleSet", name := "isFull", desc := "()Z" } : Jvm.MethodName) ({ cls := "KeepForget$RuleSet", name := "isFull", desc := "()Z" } : Jvm.MethodName)) ∈ tb := tb_t 508 (by decide +kernel) (by decide +kernel)
theorem tW_509 : (Jvm.Cond.code ({ cls := "KeepForget$RuleSet", name := "isFull", desc := "()Z" } : Jvm.MethodName) prog_7_method_2_code (1 : Nat) (Option.some Jvm.ClassFile.FieldType.boolean)) ∈ tb := tb_t 509 (by decide +kernel) (by decide +kernel)
theorem tW_510 : (Jvm.Cond.classLink "KeepForget$RuleReader" (49 : Nat) "KeepForget$Rule") ∈ tb := tb_t 510 (by decide +kernel) (by decide +kernel)
theorem tW_511 : (Jvm.Cond.instantiable "KeepForget$Rule" (12 : Nat)) ∈ tb := tb_t 511 (by decide +kernel) (by decide +kernel)
theorem tW_512 : (Jvm.Cond.methodLink "KeepForget$RuleReader" (51 : Nat) ({ cls := "KeepForget$Rule", name := "<init>", desc := "(I)V" } : Jvm.MethodName)) ∈ tb := tb_t 512 (by decide +kernel) (by decide +kernel)
theorem tW_513 : (Jvm.Cond.instanceMethod ({ cls := "KeepForget$Rule", name := "<init>", desc := "(I)V" } : Jvm.MethodName)) ∈ tb := tb_t 513 (by decide +kernel) (by decide +kernel)
theorem tW_514 : (Jvm.Cond.code ({ cls := "KeepForget$Rule", name := "<init>", desc := "(I)V" } : Jvm.MethodName) prog_5_method_1_code (2 : Nat) (Option.none : Option Jvm.ClassFile.FieldType)) ∈ tb := tb_t 514 (by decide +kernel) (by decide +kernel)
theorem tW_515 : (Jvm.Cond.methodLink "KeepForget$Rule" (3 : Nat) ({ cls := "java/lang/Object", name := "<init>", desc := "()V" } : Jvm.MethodName)) ∈ tb := tb_t 515 (by decide +kernel) (by decide +kernel)
theorem tW_516 : (Jvm.Cond.fieldLink "KeepForget$Rule" (9 : Nat) "KeepForget$Rule" "sort" "I") ∈ tb := tb_t 516 (by decide +kernel) (by decide +kernel)
theorem tW_517 : (Jvm.Cond.fieldLink "KeepForget$Span" (63 : Nat) "KeepForget$Rule" "sort" "I") ∈ tb := tb_t 517 (by decide +kernel) (by decide +kernel)
theorem tW_518 : (Jvm.Cond.fieldLink "KeepForget$RuleSet" (32 : Nat) "KeepForget$Rule" "sort" "I") ∈ tb := tb_t 518 (by decide +kernel) (by decide +kernel)
theorem tW_519 : (Jvm.Cond.fieldLink "KeepForget$Rule" (26 : Nat) "KeepForget$Rule" "kinds" "I") ∈ tb := tb_t 519 (by decide +kernel) (by decide +kernel)
theorem tW_520 : (Jvm.Cond.fieldLink "KeepForget$RuleReader" (94 : Nat) "KeepForget$Rule" "kinds" "I") ∈ tb := tb_t 520 (by decide +kernel) (by decide +kernel)
theorem tW_521 : (Jvm.Cond.fieldLink "KeepForget$Rule" (34 : Nat) "KeepForget$Rule" "fields" "I") ∈ tb := tb_t 521 (by decide +kernel) (by decide +kernel)
theorem tW_522 : (Jvm.Cond.fieldLink "KeepForget$RuleReader" (99 : Nat) "KeepForget$Rule" "fields" "I") ∈ tb := tb_t 522 (by decide +kernel) (by decide +kernel)
theorem tW_523 : (Jvm.Cond.fieldLink "KeepForget$RuleSet" (49 : Nat) "KeepForget$Rule" "stores" "I") ∈ tb := tb_t 523 (by decide +kernel) (by decide +kernel)
theorem tW_524 : (Jvm.Cond.fieldLink "KeepForget$RuleReader" (128 : Nat) "KeepForget$Rule" "stores" "I") ∈ tb := tb_t 524 (by decide +kernel) (by decide +kernel)
theorem tW_525 : (Jvm.Cond.fieldLink "KeepForget$Rule" (52 : Nat) "KeepForget$Rule" "amount" "I") ∈ tb := tb_t 525 (by decide +kernel) (by decide +kernel)
theorem tW_526 : (Jvm.Cond.fieldLink "KeepForget$RuleReader" (108 : Nat) "KeepForget$Rule" "amount" "I") ∈ tb := tb_t 526 (by decide +kernel) (by decide +kernel)
theorem tW_527 : (Jvm.Cond.fieldLink "KeepForget$Rule" (49 : Nat) "KeepForget$Rule" "unitMonths" "I") ∈ tb := tb_t 527 (by decide +kernel) (by decide +kernel)
theorem tW_528 : (Jvm.Cond.fieldLink "KeepForget$RuleReader" (117 : Nat) "KeepForget$Rule" "unitMonths" "I") ∈ tb := tb_t 528 (by decide +kernel) (by decide +kernel)
theorem tW_529 : (Jvm.Cond.fieldLink "KeepForget$Rule" (46 : Nat) "KeepForget$Rule" "event" "I") ∈ tb := tb_t 529 (by decide +kernel) (by decide +kernel)
theorem tW_530 : (Jvm.Cond.fieldLink "KeepForget$RuleReader" (125 : Nat) "KeepForget$Rule" "event" "I") ∈ tb := tb_t 530 (by decide +kernel) (by decide +kernel)
theorem tW_531 : (Jvm.Cond.fieldLink "KeepForget$RuleSet" (35 : Nat) "KeepForget$Rule" "rank" "I") ∈ tb := tb_t 531 (by decide +kernel) (by decide +kernel)
theorem tW_532 : (Jvm.Cond.fieldLink "KeepForget$RuleReader" (154 : Nat) "KeepForget$Rule" "rank" "I") ∈ tb := tb_t 532 (by decide +kernel) (by decide +kernel)
theorem tW_533 : (Jvm.Cond.fieldLink "KeepForget$Rule" (37 : Nat) "KeepForget$Rule" "testCount" "I") ∈ tb := tb_t 533 (by decide +kernel) (by decide +kernel)
theorem tW_534 : (Jvm.Cond.fieldLink "KeepForget$RuleReader" (138 : Nat) "KeepForget$Rule" "testCount" "I") ∈ tb := tb_t 534 (by decide +kernel) (by decide +kernel)
theorem tW_535 : (Jvm.Cond.fieldLink "KeepForget$Rule" (15 : Nat) "KeepForget$Rule" "testFacts" "[I") ∈ tb := tb_t 535 (by decide +kernel) (by decide +kernel)
theorem tW_536 : (Jvm.Cond.fieldLink "KeepForget$RuleReader" (141 : Nat) "KeepForget$Rule" "testFacts" "[I") ∈ tb := tb_t 536 (by decide +kernel) (by decide +kernel)
theorem tW_537 : (Jvm.Cond.fieldLink "KeepForget$Rule" (19 : Nat) "KeepForget$Rule" "testIsLess" "[Z") ∈ tb := tb_t 537 (by decide +kernel) (by decide +kernel)
theorem tW_538 : (Jvm.Cond.fieldLink "KeepForget$RuleReader" (145 : Nat) "KeepForget$Rule" "testIsLess" "[Z") ∈ tb := tb_t 538 (by decide +kernel) (by decide +kernel)
theorem tW_539 : (Jvm.Cond.fieldLink "KeepForget$Rule" (23 : Nat) "KeepForget$Rule" "testNumbers" "[I") ∈ tb := tb_t 539 (by decide +kernel) (by decide +kernel)
theorem tW_540 : (Jvm.Cond.fieldLink "KeepForget$RuleReader" (149 : Nat) "KeepForget$Rule" "testNumbers" "[I") ∈ tb := tb_t 540 (by decide +kernel) (by decide +kernel)
theorem tW_566 : (Jvm.Cond.arrayClass Jvm.ClassFile.FieldType.boolean) ∈ tb := tb_t 566 (by decide +kernel) (by decide +kernel)
theorem tW_567 : (Jvm.Cond.methodLink "KeepForget$RuleReader" (54 : Nat) ({ cls := "KeepForget$RuleReader", name := "readWhat", desc := "(LKeepForget$Rule;)Z" } : Jvm.MethodName)) ∈ tb := tb_t 567 (by decide +kernel) (by decide +kernel)
theorem tW_569 : (Jvm.Cond.instanceMethod ({ cls := "KeepForget$RuleReader", name := "readWhat", desc := "(LKeepForget$Rule;)Z" } : Jvm.MethodName)) ∈ tb := tb_t 569 (by decide +kernel) (by decide +kernel)
theorem tW_570 : (Jvm.Cond.code ({ cls := "KeepForget$RuleReader", name := "readWhat", desc := "(LKeepForget$Rule;)Z" } : Jvm.MethodName) prog_6_method_5_code (2 : Nat) (Option.some Jvm.ClassFile.FieldType.boolean)) ∈ tb := tb_t 570 (by decide +kernel) (by decide +kernel)
theorem tW_572 : (Jvm.Cond.methodLink "KeepForget$RuleReader" (90 : Nat) ({ cls := "KeepForget$RuleReader", name := "bitOf", desc := "(CI)I" } : Jvm.MethodName)) ∈ tb := tb_t 572 (by decide +kernel) (by decide +kernel)
theorem tW_574 : (Jvm.Cond.instanceMethod ({ cls := "KeepForget$RuleReader", name := "bitOf", desc := "(CI)I" } : Jvm.MethodName)) ∈ tb := tb_t 574 (by decide +kernel) (by decide +kernel)
theorem tW_575 : (Jvm.Cond.code ({ cls := "KeepForget$RuleReader", name := "bitOf", desc := "(CI)I" } : Jvm.MethodName) prog_6_method_17_code (4 : Nat) (Option.some Jvm.ClassFile.FieldType.int)) ∈ tb := tb_t 575 (by decide +kernel) (by decide +kernel)
theorem tW_576 : (Jvm.Cond.methodLink "KeepForget$RuleReader" (122 : Nat) ({ cls := "KeepForget$RuleReader", name := "numbered", desc := "(CI)I" } : Jvm.MethodName)) ∈ tb := tb_t 576 (by decide +kernel) (by decide +kernel)
theorem tW_578 : (Jvm.Cond.instanceMethod ({ cls := "KeepForget$RuleReader", name := "numbered", desc := "(CI)I" } : Jvm.MethodName)) ∈ tb := tb_t 578 (by decide +kernel) (by decide +kernel)
theorem tW_579 : (Jvm.Cond.code ({ cls := "KeepForget$RuleReader", name := "numbered", desc := "(CI)I" } : Jvm.MethodName) prog_6_method_16_code (4 : Nat) (Option.some Jvm.ClassFile.FieldType.int)) ∈ tb := tb_t 579 (by decide +kernel) (by decide +kernel)
theorem tW_581 : (Jvm.Cond.methodLink "KeepForget$RuleReader" (58 : Nat) ({ cls := "KeepForget$RuleReader", name := "readStores", desc := "(LKeepForget$Rule;)Z" } : Jvm.MethodName)) ∈ tb := tb_t 581 (by decide +kernel) (by decide +kernel)
theorem tW_583 : (Jvm.Cond.instanceMethod ({ cls := "KeepForget$RuleReader", name := "readStores", desc := "(LKeepForget$Rule;)Z" } : Jvm.MethodName)) ∈ tb := tb_t 583 (by decide +kernel) (by decide +kernel)
theorem tW_584 : (Jvm.Cond.code ({ cls := "KeepForget$RuleReader", name := "readStores", desc := "(LKeepForget$Rule;)Z" } : Jvm.MethodName) prog_6_method_7_code (4 : Nat) (Option.some Jvm.ClassFile.FieldType.boolean)) ∈ tb := tb_t 584 (by decide +kernel) (by decide +kernel)
theorem tW_585 : (Jvm.Cond.methodLink "KeepForget$RuleReader" (61 : Nat) ({ cls := "KeepForget$RuleReader", name := "readTime", desc := "(LKeepForget$Rule;)Z" } : Jvm.MethodName)) ∈ tb := tb_t 585 (by decide +kernel) (by decide +kernel)
theorem tW_587 : (Jvm.Cond.instanceMethod ({ cls := "KeepForget$RuleReader", name := "readTime", desc := "(LKeepForget$Rule;)Z" } : Jvm.MethodName)) ∈ tb := tb_t 587 (by decide +kernel) (by decide +kernel)
theorem tW_588 : (Jvm.Cond.code ({ cls := "KeepForget$RuleReader", name := "readTime", desc := "(LKeepForget$Rule;)Z" } : Jvm.MethodName) prog_6_method_6_code (2 : Nat) (Option.some Jvm.ClassFile.FieldType.boolean)) ∈ tb := tb_t 588 (by decide +kernel) (by decide +kernel)
theorem tW_589 : (Jvm.Cond.methodLink "KeepForget$RuleReader" (102 : Nat) ({ cls := "KeepForget$RuleReader", name := "checkNumber", desc := "()Z" } : Jvm.MethodName)) ∈ tb := tb_t 589 (by decide +kernel) (by decide +kernel)
theorem tW_591 : (Jvm.Cond.instanceMethod ({ cls := "KeepForget$RuleReader", name := "checkNumber", desc := "()Z" } : Jvm.MethodName)) ∈ tb := tb_t 591 (by decide +kernel) (by decide +kernel)
theorem tW_592 : (Jvm.Cond.code ({ cls := "KeepForget$RuleReader", name := "checkNumber", desc := "()Z" } : Jvm.MethodName) prog_6_method_11_code (1 : Nat) (Option.some Jvm.ClassFile.FieldType.boolean)) ∈ tb := tb_t 592 (by decide +kernel) (by decide +kernel)
theorem tW_593 : (Jvm.Cond.methodLink "KeepForget$RuleReader" (105 : Nat) ({ cls := "KeepForget$RuleReader", name := "number", desc := "()I" } : Jvm.MethodName)) ∈ tb := tb_t 593 (by decide +kernel) (by decide +kernel)
theorem tW_595 : (Jvm.Cond.instanceMethod ({ cls := "KeepForget$RuleReader", name := "number", desc := "()I" } : Jvm.MethodName)) ∈ tb := tb_t 595 (by decide +kernel) (by decide +kernel)
theorem tW_596 : (Jvm.Cond.code ({ cls := "KeepForget$RuleReader", name := "number", desc := "()I" } : Jvm.MethodName) prog_6_method_12_code (3 : Nat) (Option.some Jvm.ClassFile.FieldType.int)) ∈ tb := tb_t 596 (by decide +kernel) (by decide +kernel)
theorem tW_601 : (Jvm.Cond.methodLink "KeepForget$RuleReader" (64 : Nat) ({ cls := "KeepForget$RuleReader", name := "readTests", desc := "(LKeepForget$Rule;)Z" } : Jvm.MethodName)) ∈ tb := tb_t 601 (by decide +kernel) (by decide +kernel)
theorem tW_603 : (Jvm.Cond.instanceMethod ({ cls := "KeepForget$RuleReader", name := "readTests", desc := "(LKeepForget$Rule;)Z" } : Jvm.MethodName)) ∈ tb := tb_t 603 (by decide +kernel) (by decide +kernel)
theorem tW_604 : (Jvm.Cond.code ({ cls := "KeepForget$RuleReader", name := "readTests", desc := "(LKeepForget$Rule;)Z" } : Jvm.MethodName) prog_6_method_8_code (4 : Nat) (Option.some Jvm.ClassFile.FieldType.boolean)) ∈ tb := tb_t 604 (by decide +kernel) (by decide +kernel)
theorem tW_606 : (Jvm.Cond.methodLink "KeepForget$RuleReader" (133 : Nat) ({ cls := "KeepForget$RuleReader", name := "readTest", desc := "(LKeepForget$Rule;)Z" } : Jvm.MethodName)) ∈ tb := tb_t 606 (by decide +kernel) (by decide +kernel)
theorem tW_608 : (Jvm.Cond.instanceMethod ({ cls := "KeepForget$RuleReader", name := "readTest", desc := "(LKeepForget$Rule;)Z" } : Jvm.MethodName)) ∈ tb := tb_t 608 (by decide +kernel) (by decide +kernel)
theorem tW_609 : (Jvm.Cond.code ({ cls := "KeepForget$RuleReader", name := "readTest", desc := "(LKeepForget$Rule;)Z" } : Jvm.MethodName) prog_6_method_9_code (4 : Nat) (Option.some Jvm.ClassFile.FieldType.boolean)) ∈ tb := tb_t 609 (by decide +kernel) (by decide +kernel)
theorem tW_610 : (Jvm.Cond.methodLink "KeepForget$RuleReader" (70 : Nat) ({ cls := "KeepForget$RuleReader", name := "isSign", desc := "(C)Z" } : Jvm.MethodName)) ∈ tb := tb_t 610 (by decide +kernel) (by decide +kernel)
theorem tW_612 : (Jvm.Cond.instanceMethod ({ cls := "KeepForget$RuleReader", name := "isSign", desc := "(C)Z" } : Jvm.MethodName)) ∈ tb := tb_t 612 (by decide +kernel) (by decide +kernel)
theorem tW_613 : (Jvm.Cond.code ({ cls := "KeepForget$RuleReader", name := "isSign", desc := "(C)Z" } : Jvm.MethodName) prog_6_method_15_code (2 : Nat) (Option.some Jvm.ClassFile.FieldType.boolean)) ∈ tb := tb_t 613 (by decide +kernel) (by decide +kernel)
theorem tW_615 : (Jvm.Cond.methodLink "KeepForget$RuleReader" (67 : Nat) ({ cls := "KeepForget$RuleReader", name := "readRank", desc := "(LKeepForget$Rule;)Z" } : Jvm.MethodName)) ∈ tb := tb_t 615 (by decide +kernel) (by decide +kernel)
theorem tW_617 : (Jvm.Cond.instanceMethod ({ cls := "KeepForget$RuleReader", name := "readRank", desc := "(LKeepForget$Rule;)Z" } : Jvm.MethodName)) ∈ tb := tb_t 617 (by decide +kernel) (by decide +kernel)
theorem tW_618 : (Jvm.Cond.code ({ cls := "KeepForget$RuleReader", name := "readRank", desc := "(LKeepForget$Rule;)Z" } : Jvm.MethodName) prog_6_method_10_code (2 : Nat) (Option.some Jvm.ClassFile.FieldType.boolean)) ∈ tb := tb_t 618 (by decide +kernel) (by decide +kernel)
theorem tW_620 : (Jvm.Cond.methodLink "KeepForget$RuleReader" (74 : Nat) ({ cls := "KeepForget$RuleSet", name := "add", desc := "(LKeepForget$Rule;)V" } : Jvm.MethodName)) ∈ tb := tb_t 620 (by decide +kernel) (by decide +kernel)
theorem tW_621 : (Jvm.Cond.instanceMethod ({ cls := "KeepForget$RuleSet", name := "add", desc := "(LKeepForget$Rule;)V" } : Jvm.MethodName)) ∈ tb := tb_t 621 (by decide +kernel) (by decide +kernel)
theorem tW_622 : (Jvm.Cond.selects "KeepForget$RuleSet" ({ cls := "KeepForget$RuleSet", name := "add", desc := "(LKeepForget$Rule;)V" } : Jvm.MethodName) ({ cls := "KeepForget$RuleSet", name := "add", desc := "(LKeepForget$Rule;)V" } : Jvm.MethodName)) ∈ tb := tb_t 622 (by decide +kernel) (by decide +kernel)
theorem tW_623 : (Jvm.Cond.code ({ cls := "KeepForget$RuleSet", name := "add", desc := "(LKeepForget$Rule;)V" } : Jvm.MethodName) prog_7_method_3_code (2 : Nat) (Option.none : Option Jvm.ClassFile.FieldType)) ∈ tb := tb_t 623 (by decide +kernel) (by decide +kernel)
theorem tW_624 : (Jvm.Cond.methodLink "KeepForget$RuleSet" (28 : Nat) ({ cls := "KeepForget$RuleSet", name := "isFull", desc := "()Z" } : Jvm.MethodName)) ∈ tb := tb_t 624 (by decide +kernel) (by decide +kernel)
theorem tW_625 : (Jvm.Cond.methodLink "KeepForget$RuleSet" (38 : Nat) ({ cls := "KeepForget$RuleSet", name := "putInTurn", desc := "(II)V" } : Jvm.MethodName)) ∈ tb := tb_t 625 (by decide +kernel) (by decide +kernel)
theorem tW_627 : (Jvm.Cond.instanceMethod ({ cls := "KeepForget$RuleSet", name := "putInTurn", desc := "(II)V" } : Jvm.MethodName)) ∈ tb := tb_t 627 (by decide +kernel) (by decide +kernel)
theorem tW_628 : (Jvm.Cond.code ({ cls := "KeepForget$RuleSet", name := "putInTurn", desc := "(II)V" } : Jvm.MethodName) prog_7_method_4_code (4 : Nat) (Option.none : Option Jvm.ClassFile.FieldType)) ∈ tb := tb_t 628 (by decide +kernel) (by decide +kernel)
theorem tW_629 : (Jvm.Cond.methodLink "KeepForgetLaw" (124 : Nat) ({ cls := "KeepForgetLaw", name := "fact", desc := "(LKeepForget;III[J)I" } : Jvm.MethodName)) ∈ tb := tb_t 629 (by decide +kernel) (by decide +kernel)
theorem tW_630 : (Jvm.Cond.static ({ cls := "KeepForgetLaw", name := "fact", desc := "(LKeepForget;III[J)I" } : Jvm.MethodName)) ∈ tb := tb_t 630 (by decide +kernel) (by decide +kernel)
theorem tW_632 : (Jvm.Cond.classLink "KeepForgetLaw" (28 : Nat) "java/util/NoSuchElementException") ∈ tb := tb_t 632 (by decide +kernel) (by decide +kernel)
theorem tW_633 : (Jvm.Cond.methodLink "KeepForgetLaw" (25 : Nat) ({ cls := "KeepForget", name := "fact", desc := "(III)I" } : Jvm.MethodName)) ∈ tb := tb_t 633 (by decide +kernel) (by decide +kernel)
theorem tW_634 : (Jvm.Cond.instanceMethod ({ cls := "KeepForget", name := "fact", desc := "(III)I" } : Jvm.MethodName)) ∈ tb := tb_t 634 (by decide +kernel) (by decide +kernel)
theorem tW_635 : (Jvm.Cond.selects "KeepForget" ({ cls := "KeepForget", name := "fact", desc := "(III)I" } : Jvm.MethodName) ({ cls := "KeepForget", name := "fact", desc := "(III)I" } : Jvm.MethodName)) ∈ tb := tb_t 635 (by decide +kernel) (by decide +kernel)
theorem tW_636 : (Jvm.Cond.code ({ cls := "KeepForget", name := "fact", desc := "(III)I" } : Jvm.MethodName) prog_1_method_9_code (6 : Nat) (Option.some Jvm.ClassFile.FieldType.int)) ∈ tb := tb_t 636 (by decide +kernel) (by decide +kernel)
theorem tW_637 : (Jvm.Cond.methodLink "KeepForget" (123 : Nat) ({ cls := "KeepForget", name := "thingAt", desc := "(I)LKeepForget$Thing;" } : Jvm.MethodName)) ∈ tb := tb_t 637 (by decide +kernel) (by decide +kernel)
theorem tW_639 : (Jvm.Cond.instanceMethod ({ cls := "KeepForget", name := "thingAt", desc := "(I)LKeepForget$Thing;" } : Jvm.MethodName)) ∈ tb := tb_t 639 (by decide +kernel) (by decide +kernel)
theorem tW_640 : (Jvm.Cond.code ({ cls := "KeepForget", name := "thingAt", desc := "(I)LKeepForget$Thing;" } : Jvm.MethodName) prog_1_method_31_code (2 : Nat) (Option.some (Jvm.ClassFile.FieldType.object "KeepForget$Thing"))) ∈ tb := tb_t 640 (by decide +kernel) (by decide +kernel)
theorem tW_641 : (Jvm.Cond.classLink "KeepForget" (127 : Nat) "java/util/NoSuchElementException") ∈ tb := tb_t 641 (by decide +kernel) (by decide +kernel)
theorem tW_642 : (Jvm.Cond.instantiable "java/util/NoSuchElementException" (6 : Nat)) ∈ tb := tb_t 642 (by decide +kernel) (by decide +kernel)
theorem tW_644 : (Jvm.Cond.selects "java/util/NoSuchElementException" ({ cls := "java/lang/Throwable", name := "fillInStackTrace", desc := "(I)Ljava/lang/Throwable;" } : Jvm.MethodName) ({ cls := "java/lang/Throwable", name := "fillInStackTrace", desc := "(I)Ljava/lang/Throwable;" } : Jvm.MethodName)) ∈ tb := tb_t 644 (by decide +kernel) (by decide +kernel)
theorem tW_651 : (Jvm.Cond.methodLink "KeepForget" (131 : Nat) ({ cls := "java/util/NoSuchElementException", name := "<init>", desc := "(Ljava/lang/String;)V" } : Jvm.MethodName)) ∈ tb := tb_t 651 (by decide +kernel) (by decide +kernel)
theorem tW_652 : (Jvm.Cond.instanceMethod ({ cls := "java/util/NoSuchElementException", name := "<init>", desc := "(Ljava/lang/String;)V" } : Jvm.MethodName)) ∈ tb := tb_t 652 (by decide +kernel) (by decide +kernel)
theorem tW_653 : (Jvm.Cond.code ({ cls := "java/util/NoSuchElementException", name := "<init>", desc := "(Ljava/lang/String;)V" } : Jvm.MethodName) prog_22_method_4_code (2 : Nat) (Option.none : Option Jvm.ClassFile.FieldType)) ∈ tb := tb_t 653 (by decide +kernel) (by decide +kernel)
theorem tW_654 : (Jvm.Cond.methodLink "java/util/NoSuchElementException" (13 : Nat) ({ cls := "java/lang/RuntimeException", name := "<init>", desc := "(Ljava/lang/String;)V" } : Jvm.MethodName)) ∈ tb := tb_t 654 (by decide +kernel) (by decide +kernel)
theorem tW_659 : (Jvm.Cond.methodLink "KeepForgetLaw" (127 : Nat) ({ cls := "KeepForgetLaw", name := "event", desc := "(LKeepForget;III[J)I" } : Jvm.MethodName)) ∈ tb := tb_t 659 (by decide +kernel) (by decide +kernel)
theorem tW_660 : (Jvm.Cond.static ({ cls := "KeepForgetLaw", name := "event", desc := "(LKeepForget;III[J)I" } : Jvm.MethodName)) ∈ tb := tb_t 660 (by decide +kernel) (by decide +kernel)
theorem tW_662 : (Jvm.Cond.methodLink "KeepForgetLaw" (30 : Nat) ({ cls := "KeepForget", name := "event", desc := "(III)I" } : Jvm.MethodName)) ∈ tb := tb_t 662 (by decide +kernel) (by decide +kernel)
theorem tW_663 : (Jvm.Cond.instanceMethod ({ cls := "KeepForget", name := "event", desc := "(III)I" } : Jvm.MethodName)) ∈ tb := tb_t 663 (by decide +kernel) (by decide +kernel)
theorem tW_664 : (Jvm.Cond.selects "KeepForget" ({ cls := "KeepForget", name := "event", desc := "(III)I" } : Jvm.MethodName) ({ cls := "KeepForget", name := "event", desc := "(III)I" } : Jvm.MethodName)) ∈ tb := tb_t 664 (by decide +kernel) (by decide +kernel)
theorem tW_665 : (Jvm.Cond.code ({ cls := "KeepForget", name := "event", desc := "(III)I" } : Jvm.MethodName) prog_1_method_10_code (6 : Nat) (Option.some Jvm.ClassFile.FieldType.int)) ∈ tb := tb_t 665 (by decide +kernel) (by decide +kernel)
theorem tW_667 : (Jvm.Cond.methodLink "KeepForgetLaw" (130 : Nat) ({ cls := "KeepForgetLaw", name := "copy", desc := "(LKeepForget;III[J)I" } : Jvm.MethodName)) ∈ tb := tb_t 667 (by decide +kernel) (by decide +kernel)
theorem tW_668 : (Jvm.Cond.static ({ cls := "KeepForgetLaw", name := "copy", desc := "(LKeepForget;III[J)I" } : Jvm.MethodName)) ∈ tb := tb_t 668 (by decide +kernel) (by decide +kernel)
theorem tW_670 : (Jvm.Cond.methodLink "KeepForgetLaw" (33 : Nat) ({ cls := "KeepForget", name := "copy", desc := "(III)Z" } : Jvm.MethodName)) ∈ tb := tb_t 670 (by decide +kernel) (by decide +kernel)
theorem tW_671 : (Jvm.Cond.instanceMethod ({ cls := "KeepForget", name := "copy", desc := "(III)Z" } : Jvm.MethodName)) ∈ tb := tb_t 671 (by decide +kernel) (by decide +kernel)
theorem tW_672 : (Jvm.Cond.selects "KeepForget" ({ cls := "KeepForget", name := "copy", desc := "(III)Z" } : Jvm.MethodName) ({ cls := "KeepForget", name := "copy", desc := "(III)Z" } : Jvm.MethodName)) ∈ tb := tb_t 672 (by decide +kernel) (by decide +kernel)
theorem tW_673 : (Jvm.Cond.code ({ cls := "KeepForget", name := "copy", desc := "(III)Z" } : Jvm.MethodName) prog_1_method_11_code (5 : Nat) (Option.some Jvm.ClassFile.FieldType.boolean)) ∈ tb := tb_t 673 (by decide +kernel) (by decide +kernel)
theorem tW_674 : (Jvm.Cond.methodLink "KeepForget" (143 : Nat) ({ cls := "KeepForget", name := "checkField", desc := "(I)V" } : Jvm.MethodName)) ∈ tb := tb_t 674 (by decide +kernel) (by decide +kernel)
theorem tW_675 : (Jvm.Cond.static ({ cls := "KeepForget", name := "checkField", desc := "(I)V" } : Jvm.MethodName)) ∈ tb := tb_t 675 (by decide +kernel) (by decide +kernel)
theorem tW_676 : (Jvm.Cond.code ({ cls := "KeepForget", name := "checkField", desc := "(I)V" } : Jvm.MethodName) prog_1_method_29_code (1 : Nat) (Option.none : Option Jvm.ClassFile.FieldType)) ∈ tb := tb_t 676 (by decide +kernel) (by decide +kernel)
theorem tW_678 : (Jvm.Cond.methodLink "KeepForget" (146 : Nat) ({ cls := "KeepForget", name := "checkStore", desc := "(I)V" } : Jvm.MethodName)) ∈ tb := tb_t 678 (by decide +kernel) (by decide +kernel)
theorem tW_679 : (Jvm.Cond.static ({ cls := "KeepForget", name := "checkStore", desc := "(I)V" } : Jvm.MethodName)) ∈ tb := tb_t 679 (by decide +kernel) (by decide +kernel)
theorem tW_680 : (Jvm.Cond.code ({ cls := "KeepForget", name := "checkStore", desc := "(I)V" } : Jvm.MethodName) prog_1_method_30_code (1 : Nat) (Option.none : Option Jvm.ClassFile.FieldType)) ∈ tb := tb_t 680 (by decide +kernel) (by decide +kernel)
theorem tW_682 : (Jvm.Cond.methodLink "KeepForget" (149 : Nat) ({ cls := "KeepForget$Thing", name := "hasCopy", desc := "(II)Z" } : Jvm.MethodName)) ∈ tb := tb_t 682 (by decide +kernel) (by decide +kernel)
theorem tW_683 : (Jvm.Cond.instanceMethod ({ cls := "KeepForget$Thing", name := "hasCopy", desc := "(II)Z" } : Jvm.MethodName)) ∈ tb := tb_t 683 (by decide +kernel) (by decide +kernel)
theorem tW_684 : (Jvm.Cond.selects "KeepForget$Thing" ({ cls := "KeepForget$Thing", name := "hasCopy", desc := "(II)Z" } : Jvm.MethodName) ({ cls := "KeepForget$Thing", name := "hasCopy", desc := "(II)Z" } : Jvm.MethodName)) ∈ tb := tb_t 684 (by decide +kernel) (by decide +kernel)
theorem tW_685 : (Jvm.Cond.code ({ cls := "KeepForget$Thing", name := "hasCopy", desc := "(II)Z" } : Jvm.MethodName) prog_10_method_2_code (3 : Nat) (Option.some Jvm.ClassFile.FieldType.boolean)) ∈ tb := tb_t 685 (by decide +kernel) (by decide +kernel)
theorem tW_686 : (Jvm.Cond.methodLink "KeepForgetLaw" (133 : Nat) ({ cls := "KeepForgetLaw", name := "copies", desc := "(LKeepForget;II[J)I" } : Jvm.MethodName)) ∈ tb := tb_t 686 (by decide +kernel) (by decide +kernel)
theorem tW_687 : (Jvm.Cond.static ({ cls := "KeepForgetLaw", name := "copies", desc := "(LKeepForget;II[J)I" } : Jvm.MethodName)) ∈ tb := tb_t 687 (by decide +kernel) (by decide +kernel)
theorem tW_689 : (Jvm.Cond.methodLink "KeepForgetLaw" (37 : Nat) ({ cls := "KeepForget", name := "copies", desc := "(II)I" } : Jvm.MethodName)) ∈ tb := tb_t 689 (by decide +kernel) (by decide +kernel)
theorem tW_690 : (Jvm.Cond.instanceMethod ({ cls := "KeepForget", name := "copies", desc := "(II)I" } : Jvm.MethodName)) ∈ tb := tb_t 690 (by decide +kernel) (by decide +kernel)
theorem tW_691 : (Jvm.Cond.selects "KeepForget" ({ cls := "KeepForget", name := "copies", desc := "(II)I" } : Jvm.MethodName) ({ cls := "KeepForget", name := "copies", desc := "(II)I" } : Jvm.MethodName)) ∈ tb := tb_t 691 (by decide +kernel) (by decide +kernel)
theorem tW_692 : (Jvm.Cond.code ({ cls := "KeepForget", name := "copies", desc := "(II)I" } : Jvm.MethodName) prog_1_method_12_code (4 : Nat) (Option.some Jvm.ClassFile.FieldType.int)) ∈ tb := tb_t 692 (by decide +kernel) (by decide +kernel)
theorem tW_693 : (Jvm.Cond.methodLink "KeepForgetLaw" (136 : Nat) ({ cls := "KeepForgetLaw", name := "store", desc := "(LKeepForget;III)I" } : Jvm.MethodName)) ∈ tb := tb_t 693 (by decide +kernel) (by decide +kernel)
theorem tW_694 : (Jvm.Cond.static ({ cls := "KeepForgetLaw", name := "store", desc := "(LKeepForget;III)I" } : Jvm.MethodName)) ∈ tb := tb_t 694 (by decide +kernel) (by decide +kernel)
theorem tW_696 : (Jvm.Cond.methodLink "KeepForgetLaw" (40 : Nat) ({ cls := "KeepForget", name := "store", desc := "(III)V" } : Jvm.MethodName)) ∈ tb := tb_t 696 (by decide +kernel) (by decide +kernel)
theorem tW_697 : (Jvm.Cond.instanceMethod ({ cls := "KeepForget", name := "store", desc := "(III)V" } : Jvm.MethodName)) ∈ tb := tb_t 697 (by decide +kernel) (by decide +kernel)
theorem tW_698 : (Jvm.Cond.selects "KeepForget" ({ cls := "KeepForget", name := "store", desc := "(III)V" } : Jvm.MethodName) ({ cls := "KeepForget", name := "store", desc := "(III)V" } : Jvm.MethodName)) ∈ tb := tb_t 698 (by decide +kernel) (by decide +kernel)
theorem tW_699 : (Jvm.Cond.code ({ cls := "KeepForget", name := "store", desc := "(III)V" } : Jvm.MethodName) prog_1_method_13_code (4 : Nat) (Option.none : Option Jvm.ClassFile.FieldType)) ∈ tb := tb_t 699 (by decide +kernel) (by decide +kernel)
theorem tW_701 : (Jvm.Cond.methodLink "KeepForgetLaw" (140 : Nat) ({ cls := "KeepForgetLaw", name := "hold", desc := "(LKeepForget;II[J)I" } : Jvm.MethodName)) ∈ tb := tb_t 701 (by decide +kernel) (by decide +kernel)
theorem tW_702 : (Jvm.Cond.static ({ cls := "KeepForgetLaw", name := "hold", desc := "(LKeepForget;II[J)I" } : Jvm.MethodName)) ∈ tb := tb_t 702 (by decide +kernel) (by decide +kernel)
theorem tW_704 : (Jvm.Cond.methodLink "KeepForgetLaw" (44 : Nat) ({ cls := "KeepForget", name := "hold", desc := "(II)I" } : Jvm.MethodName)) ∈ tb := tb_t 704 (by decide +kernel) (by decide +kernel)
theorem tW_705 : (Jvm.Cond.instanceMethod ({ cls := "KeepForget", name := "hold", desc := "(II)I" } : Jvm.MethodName)) ∈ tb := tb_t 705 (by decide +kernel) (by decide +kernel)
theorem tW_706 : (Jvm.Cond.selects "KeepForget" ({ cls := "KeepForget", name := "hold", desc := "(II)I" } : Jvm.MethodName) ({ cls := "KeepForget", name := "hold", desc := "(II)I" } : Jvm.MethodName)) ∈ tb := tb_t 706 (by decide +kernel) (by decide +kernel)
theorem tW_707 : (Jvm.Cond.code ({ cls := "KeepForget", name := "hold", desc := "(II)I" } : Jvm.MethodName) prog_1_method_14_code (4 : Nat) (Option.some Jvm.ClassFile.FieldType.int)) ∈ tb := tb_t 707 (by decide +kernel) (by decide +kernel)
theorem tW_708 : (Jvm.Cond.instantiable "KeepForget$Hold" (3 : Nat)) ∈ tb := tb_t 708 (by decide +kernel) (by decide +kernel)
theorem tW_709 : (Jvm.Cond.methodLink "KeepForget" (171 : Nat) ({ cls := "KeepForget$Hold", name := "<init>", desc := "(LKeepForget$Thing;I)V" } : Jvm.MethodName)) ∈ tb := tb_t 709 (by decide +kernel) (by decide +kernel)
theorem tW_710 : (Jvm.Cond.instanceMethod ({ cls := "KeepForget$Hold", name := "<init>", desc := "(LKeepForget$Thing;I)V" } : Jvm.MethodName)) ∈ tb := tb_t 710 (by decide +kernel) (by decide +kernel)
theorem tW_711 : (Jvm.Cond.code ({ cls := "KeepForget$Hold", name := "<init>", desc := "(LKeepForget$Thing;I)V" } : Jvm.MethodName) prog_3_method_1_code (3 : Nat) (Option.none : Option Jvm.ClassFile.FieldType)) ∈ tb := tb_t 711 (by decide +kernel) (by decide +kernel)
theorem tW_712 : (Jvm.Cond.methodLink "KeepForget$Hold" (1 : Nat) ({ cls := "java/lang/Object", name := "<init>", desc := "()V" } : Jvm.MethodName)) ∈ tb := tb_t 712 (by decide +kernel) (by decide +kernel)
theorem tW_713 : (Jvm.Cond.fieldLink "KeepForget$Hold" (7 : Nat) "KeepForget$Hold" "thing" "LKeepForget$Thing;") ∈ tb := tb_t 713 (by decide +kernel) (by decide +kernel)
theorem tW_714 : (Jvm.Cond.fieldLink "KeepForget" (183 : Nat) "KeepForget$Hold" "thing" "LKeepForget$Thing;") ∈ tb := tb_t 714 (by decide +kernel) (by decide +kernel)
theorem tW_715 : (Jvm.Cond.fieldLink "KeepForget$Hold" (13 : Nat) "KeepForget$Hold" "fields" "I") ∈ tb := tb_t 715 (by decide +kernel) (by decide +kernel)
theorem tW_716 : (Jvm.Cond.fieldLink "KeepForget" (315 : Nat) "KeepForget$Hold" "fields" "I") ∈ tb := tb_t 716 (by decide +kernel) (by decide +kernel)
theorem tW_717 : (Jvm.Cond.fieldLink "KeepForget" (179 : Nat) "KeepForget$Hold" "isLifted" "Z") ∈ tb := tb_t 717 (by decide +kernel) (by decide +kernel)
theorem tW_725 : (Jvm.Cond.methodLink "KeepForgetLaw" (143 : Nat) ({ cls := "KeepForgetLaw", name := "lift", desc := "(LKeepForget;I[J)I" } : Jvm.MethodName)) ∈ tb := tb_t 725 (by decide +kernel) (by decide +kernel)
theorem tW_726 : (Jvm.Cond.static ({ cls := "KeepForgetLaw", name := "lift", desc := "(LKeepForget;I[J)I" } : Jvm.MethodName)) ∈ tb := tb_t 726 (by decide +kernel) (by decide +kernel)
theorem tW_728 : (Jvm.Cond.methodLink "KeepForgetLaw" (47 : Nat) ({ cls := "KeepForget", name := "lift", desc := "(I)Z" } : Jvm.MethodName)) ∈ tb := tb_t 728 (by decide +kernel) (by decide +kernel)
theorem tW_729 : (Jvm.Cond.instanceMethod ({ cls := "KeepForget", name := "lift", desc := "(I)Z" } : Jvm.MethodName)) ∈ tb := tb_t 729 (by decide +kernel) (by decide +kernel)
theorem tW_730 : (Jvm.Cond.selects "KeepForget" ({ cls := "KeepForget", name := "lift", desc := "(I)Z" } : Jvm.MethodName) ({ cls := "KeepForget", name := "lift", desc := "(I)Z" } : Jvm.MethodName)) ∈ tb := tb_t 730 (by decide +kernel) (by decide +kernel)
theorem tW_731 : (Jvm.Cond.code ({ cls := "KeepForget", name := "lift", desc := "(I)Z" } : Jvm.MethodName) prog_1_method_15_code (3 : Nat) (Option.some Jvm.ClassFile.FieldType.boolean)) ∈ tb := tb_t 731 (by decide +kernel) (by decide +kernel)
theorem tW_733 : (Jvm.Cond.methodLink "KeepForget" (187 : Nat) ({ cls := "KeepForget", name := "heldFields", desc := "(LKeepForget$Thing;)I" } : Jvm.MethodName)) ∈ tb := tb_t 733 (by decide +kernel) (by decide +kernel)
theorem tW_735 : (Jvm.Cond.instanceMethod ({ cls := "KeepForget", name := "heldFields", desc := "(LKeepForget$Thing;)I" } : Jvm.MethodName)) ∈ tb := tb_t 735 (by decide +kernel) (by decide +kernel)
theorem tW_736 : (Jvm.Cond.code ({ cls := "KeepForget", name := "heldFields", desc := "(LKeepForget$Thing;)I" } : Jvm.MethodName) prog_1_method_38_code (4 : Nat) (Option.some Jvm.ClassFile.FieldType.int)) ∈ tb := tb_t 736 (by decide +kernel) (by decide +kernel)
theorem tW_737 : (Jvm.Cond.methodLink "KeepForgetLaw" (147 : Nat) ({ cls := "KeepForgetLaw", name := "wish", desc := "(LKeepForget;I[J)I" } : Jvm.MethodName)) ∈ tb := tb_t 737 (by decide +kernel) (by decide +kernel)
theorem tW_738 : (Jvm.Cond.static ({ cls := "KeepForgetLaw", name := "wish", desc := "(LKeepForget;I[J)I" } : Jvm.MethodName)) ∈ tb := tb_t 738 (by decide +kernel) (by decide +kernel)
theorem tW_740 : (Jvm.Cond.methodLink "KeepForgetLaw" (51 : Nat) ({ cls := "KeepForget", name := "wish", desc := "(I)I" } : Jvm.MethodName)) ∈ tb := tb_t 740 (by decide +kernel) (by decide +kernel)
theorem tW_741 : (Jvm.Cond.instanceMethod ({ cls := "KeepForget", name := "wish", desc := "(I)I" } : Jvm.MethodName)) ∈ tb := tb_t 741 (by decide +kernel) (by decide +kernel)
theorem tW_742 : (Jvm.Cond.selects "KeepForget" ({ cls := "KeepForget", name := "wish", desc := "(I)I" } : Jvm.MethodName) ({ cls := "KeepForget", name := "wish", desc := "(I)I" } : Jvm.MethodName)) ∈ tb := tb_t 742 (by decide +kernel) (by decide +kernel)
theorem tW_743 : (Jvm.Cond.code ({ cls := "KeepForget", name := "wish", desc := "(I)I" } : Jvm.MethodName) prog_1_method_16_code (6 : Nat) (Option.some Jvm.ClassFile.FieldType.int)) ∈ tb := tb_t 743 (by decide +kernel) (by decide +kernel)
theorem tW_744 : (Jvm.Cond.methodLink "KeepForget" (198 : Nat) ({ cls := "KeepForget$Span", name := "settle", desc := "(LKeepForget$Thing;ILKeepForget$RuleSet;)V" } : Jvm.MethodName)) ∈ tb := tb_t 744 (by decide +kernel) (by decide +kernel)
theorem tW_745 : (Jvm.Cond.instanceMethod ({ cls := "KeepForget$Span", name := "settle", desc := "(LKeepForget$Thing;ILKeepForget$RuleSet;)V" } : Jvm.MethodName)) ∈ tb := tb_t 745 (by decide +kernel) (by decide +kernel)
theorem tW_746 : (Jvm.Cond.selects "KeepForget$Span" ({ cls := "KeepForget$Span", name := "settle", desc := "(LKeepForget$Thing;ILKeepForget$RuleSet;)V" } : Jvm.MethodName) ({ cls := "KeepForget$Span", name := "settle", desc := "(LKeepForget$Thing;ILKeepForget$RuleSet;)V" } : Jvm.MethodName)) ∈ tb := tb_t 746 (by decide +kernel) (by decide +kernel)
theorem tW_747 : (Jvm.Cond.code ({ cls := "KeepForget$Span", name := "settle", desc := "(LKeepForget$Thing;ILKeepForget$RuleSet;)V" } : Jvm.MethodName) prog_8_method_2_code (7 : Nat) (Option.none : Option Jvm.ClassFile.FieldType)) ∈ tb := tb_t 747 (by decide +kernel) (by decide +kernel)
theorem tW_748 : (Jvm.Cond.constant "KeepForget$Span" (19 : Nat) (999999 : Int32)) ∈ tb := tb_t 748 (by decide +kernel) (by decide +kernel)
theorem tW_749 : (Jvm.Cond.methodLink "KeepForget$Span" (57 : Nat) ({ cls := "KeepForget$Rule", name := "isFor", desc := "(LKeepForget$Thing;I)Z" } : Jvm.MethodName)) ∈ tb := tb_t 749 (by decide +kernel) (by decide +kernel)
theorem tW_750 : (Jvm.Cond.methodLink "KeepForget$Span" (66 : Nat) ({ cls := "KeepForget$Rule", name := "dayFor", desc := "(LKeepForget$Thing;)I" } : Jvm.MethodName)) ∈ tb := tb_t 750 (by decide +kernel) (by decide +kernel)
theorem tW_751 : (Jvm.Cond.instanceMethod ({ cls := "KeepForget$Rule", name := "dayFor", desc := "(LKeepForget$Thing;)I" } : Jvm.MethodName)) ∈ tb := tb_t 751 (by decide +kernel) (by decide +kernel)
theorem tW_752 : (Jvm.Cond.selects "KeepForget$Rule" ({ cls := "KeepForget$Rule", name := "dayFor", desc := "(LKeepForget$Thing;)I" } : Jvm.MethodName) ({ cls := "KeepForget$Rule", name := "dayFor", desc := "(LKeepForget$Thing;)I" } : Jvm.MethodName)) ∈ tb := tb_t 752 (by decide +kernel) (by decide +kernel)
theorem tW_753 : (Jvm.Cond.code ({ cls := "KeepForget$Rule", name := "dayFor", desc := "(LKeepForget$Thing;)I" } : Jvm.MethodName) prog_5_method_3_code (3 : Nat) (Option.some Jvm.ClassFile.FieldType.int)) ∈ tb := tb_t 753 (by decide +kernel) (by decide +kernel)
theorem tW_754 : (Jvm.Cond.methodLink "KeepForget$Rule" (55 : Nat) ({ cls := "KeepForget$Dates", name := "monthsAfter", desc := "(II)I" } : Jvm.MethodName)) ∈ tb := tb_t 754 (by decide +kernel) (by decide +kernel)
theorem tW_755 : (Jvm.Cond.constant "KeepForget$Rule" (61 : Nat) (200000 : Int32)) ∈ tb := tb_t 755 (by decide +kernel) (by decide +kernel)
theorem tW_756 : (Jvm.Cond.constant "KeepForget$Rule" (62 : Nat) (999999 : Int32)) ∈ tb := tb_t 756 (by decide +kernel) (by decide +kernel)
theorem tW_757 : (Jvm.Cond.methodLink "KeepForget$Span" (70 : Nat) ({ cls := "KeepForget$Span", name := "take", desc := "(III)V" } : Jvm.MethodName)) ∈ tb := tb_t 757 (by decide +kernel) (by decide +kernel)
theorem tW_759 : (Jvm.Cond.instanceMethod ({ cls := "KeepForget$Span", name := "take", desc := "(III)V" } : Jvm.MethodName)) ∈ tb := tb_t 759 (by decide +kernel) (by decide +kernel)
theorem tW_760 : (Jvm.Cond.code ({ cls := "KeepForget$Span", name := "take", desc := "(III)V" } : Jvm.MethodName) prog_8_method_3_code (4 : Nat) (Option.none : Option Jvm.ClassFile.FieldType)) ∈ tb := tb_t 760 (by decide +kernel) (by decide +kernel)
theorem tW_761 : (Jvm.Cond.methodLink "KeepForget$Span" (74 : Nat) ({ cls := "KeepForget$Span", name := "keepUntil", desc := "(II)V" } : Jvm.MethodName)) ∈ tb := tb_t 761 (by decide +kernel) (by decide +kernel)
theorem tW_763 : (Jvm.Cond.instanceMethod ({ cls := "KeepForget$Span", name := "keepUntil", desc := "(II)V" } : Jvm.MethodName)) ∈ tb := tb_t 763 (by decide +kernel) (by decide +kernel)
theorem tW_764 : (Jvm.Cond.code ({ cls := "KeepForget$Span", name := "keepUntil", desc := "(II)V" } : Jvm.MethodName) prog_8_method_4_code (3 : Nat) (Option.none : Option Jvm.ClassFile.FieldType)) ∈ tb := tb_t 764 (by decide +kernel) (by decide +kernel)
theorem tW_765 : (Jvm.Cond.methodLink "KeepForget$Span" (81 : Nat) ({ cls := "KeepForget$Span", name := "lose", desc := "(I)V" } : Jvm.MethodName)) ∈ tb := tb_t 765 (by decide +kernel) (by decide +kernel)
theorem tW_767 : (Jvm.Cond.instanceMethod ({ cls := "KeepForget$Span", name := "lose", desc := "(I)V" } : Jvm.MethodName)) ∈ tb := tb_t 767 (by decide +kernel) (by decide +kernel)
theorem tW_768 : (Jvm.Cond.code ({ cls := "KeepForget$Span", name := "lose", desc := "(I)V" } : Jvm.MethodName) prog_8_method_6_code (2 : Nat) (Option.none : Option Jvm.ClassFile.FieldType)) ∈ tb := tb_t 768 (by decide +kernel) (by decide +kernel)
theorem tW_769 : (Jvm.Cond.methodLink "KeepForget$Span" (78 : Nat) ({ cls := "KeepForget$Span", name := "endAt", desc := "(II)V" } : Jvm.MethodName)) ∈ tb := tb_t 769 (by decide +kernel) (by decide +kernel)
theorem tW_771 : (Jvm.Cond.instanceMethod ({ cls := "KeepForget$Span", name := "endAt", desc := "(II)V" } : Jvm.MethodName)) ∈ tb := tb_t 771 (by decide +kernel) (by decide +kernel)
theorem tW_772 : (Jvm.Cond.code ({ cls := "KeepForget$Span", name := "endAt", desc := "(II)V" } : Jvm.MethodName) prog_8_method_5_code (3 : Nat) (Option.none : Option Jvm.ClassFile.FieldType)) ∈ tb := tb_t 772 (by decide +kernel) (by decide +kernel)
theorem tW_773 : (Jvm.Cond.methodLink "KeepForget" (205 : Nat) ({ cls := "KeepForget$Span", name := "isDue", desc := "(I)Z" } : Jvm.MethodName)) ∈ tb := tb_t 773 (by decide +kernel) (by decide +kernel)
theorem tW_774 : (Jvm.Cond.instanceMethod ({ cls := "KeepForget$Span", name := "isDue", desc := "(I)Z" } : Jvm.MethodName)) ∈ tb := tb_t 774 (by decide +kernel) (by decide +kernel)
theorem tW_775 : (Jvm.Cond.selects "KeepForget$Span" ({ cls := "KeepForget$Span", name := "isDue", desc := "(I)Z" } : Jvm.MethodName) ({ cls := "KeepForget$Span", name := "isDue", desc := "(I)Z" } : Jvm.MethodName)) ∈ tb := tb_t 775 (by decide +kernel) (by decide +kernel)
theorem tW_776 : (Jvm.Cond.code ({ cls := "KeepForget$Span", name := "isDue", desc := "(I)Z" } : Jvm.MethodName) prog_8_method_7_code (2 : Nat) (Option.some Jvm.ClassFile.FieldType.boolean)) ∈ tb := tb_t 776 (by decide +kernel) (by decide +kernel)
theorem tW_777 : (Jvm.Cond.methodLink "KeepForgetLaw" (150 : Nat) ({ cls := "KeepForgetLaw", name := "span", desc := "(LKeepForget;IIII[J)I" } : Jvm.MethodName)) ∈ tb := tb_t 777 (by decide +kernel) (by decide +kernel)
theorem tW_778 : (Jvm.Cond.static ({ cls := "KeepForgetLaw", name := "span", desc := "(LKeepForget;IIII[J)I" } : Jvm.MethodName)) ∈ tb := tb_t 778 (by decide +kernel) (by decide +kernel)
theorem tW_780 : (Jvm.Cond.methodLink "KeepForgetLaw" (55 : Nat) ({ cls := "KeepForget", name := "span", desc := "(IIII)I" } : Jvm.MethodName)) ∈ tb := tb_t 780 (by decide +kernel) (by decide +kernel)
theorem tW_781 : (Jvm.Cond.instanceMethod ({ cls := "KeepForget", name := "span", desc := "(IIII)I" } : Jvm.MethodName)) ∈ tb := tb_t 781 (by decide +kernel) (by decide +kernel)
theorem tW_782 : (Jvm.Cond.selects "KeepForget" ({ cls := "KeepForget", name := "span", desc := "(IIII)I" } : Jvm.MethodName) ({ cls := "KeepForget", name := "span", desc := "(IIII)I" } : Jvm.MethodName)) ∈ tb := tb_t 782 (by decide +kernel) (by decide +kernel)
theorem tW_783 : (Jvm.Cond.code ({ cls := "KeepForget", name := "span", desc := "(IIII)I" } : Jvm.MethodName) prog_1_method_17_code (6 : Nat) (Option.some Jvm.ClassFile.FieldType.int)) ∈ tb := tb_t 783 (by decide +kernel) (by decide +kernel)
theorem tW_784 : (Jvm.Cond.methodLink "KeepForget" (209 : Nat) ({ cls := "KeepForget", name := "chosenSet", desc := "(I)LKeepForget$RuleSet;" } : Jvm.MethodName)) ∈ tb := tb_t 784 (by decide +kernel) (by decide +kernel)
theorem tW_786 : (Jvm.Cond.instanceMethod ({ cls := "KeepForget", name := "chosenSet", desc := "(I)LKeepForget$RuleSet;" } : Jvm.MethodName)) ∈ tb := tb_t 786 (by decide +kernel) (by decide +kernel)
theorem tW_787 : (Jvm.Cond.code ({ cls := "KeepForget", name := "chosenSet", desc := "(I)LKeepForget$RuleSet;" } : Jvm.MethodName) prog_1_method_33_code (2 : Nat) (Option.some (Jvm.ClassFile.FieldType.object "KeepForget$RuleSet"))) ∈ tb := tb_t 787 (by decide +kernel) (by decide +kernel)
theorem tW_788 : (Jvm.Cond.methodLink "KeepForget" (247 : Nat) ({ cls := "KeepForget", name := "setAt", desc := "(I)LKeepForget$RuleSet;" } : Jvm.MethodName)) ∈ tb := tb_t 788 (by decide +kernel) (by decide +kernel)
theorem tW_790 : (Jvm.Cond.instanceMethod ({ cls := "KeepForget", name := "setAt", desc := "(I)LKeepForget$RuleSet;" } : Jvm.MethodName)) ∈ tb := tb_t 790 (by decide +kernel) (by decide +kernel)
theorem tW_791 : (Jvm.Cond.code ({ cls := "KeepForget", name := "setAt", desc := "(I)LKeepForget$RuleSet;" } : Jvm.MethodName) prog_1_method_32_code (2 : Nat) (Option.some (Jvm.ClassFile.FieldType.object "KeepForget$RuleSet"))) ∈ tb := tb_t 791 (by decide +kernel) (by decide +kernel)
theorem tW_794 : (Jvm.Cond.methodLink "KeepForgetLaw" (154 : Nat) ({ cls := "KeepForgetLaw", name := "lost", desc := "(LKeepForget;IIII[J)I" } : Jvm.MethodName)) ∈ tb := tb_t 794 (by decide +kernel) (by decide +kernel)
theorem tW_795 : (Jvm.Cond.static ({ cls := "KeepForgetLaw", name := "lost", desc := "(LKeepForget;IIII[J)I" } : Jvm.MethodName)) ∈ tb := tb_t 795 (by decide +kernel) (by decide +kernel)
theorem tW_797 : (Jvm.Cond.methodLink "KeepForgetLaw" (59 : Nat) ({ cls := "KeepForget", name := "lost", desc := "(IIII)I" } : Jvm.MethodName)) ∈ tb := tb_t 797 (by decide +kernel) (by decide +kernel)
theorem tW_798 : (Jvm.Cond.instanceMethod ({ cls := "KeepForget", name := "lost", desc := "(IIII)I" } : Jvm.MethodName)) ∈ tb := tb_t 798 (by decide +kernel) (by decide +kernel)
theorem tW_799 : (Jvm.Cond.selects "KeepForget" ({ cls := "KeepForget", name := "lost", desc := "(IIII)I" } : Jvm.MethodName) ({ cls := "KeepForget", name := "lost", desc := "(IIII)I" } : Jvm.MethodName)) ∈ tb := tb_t 799 (by decide +kernel) (by decide +kernel)
theorem tW_800 : (Jvm.Cond.code ({ cls := "KeepForget", name := "lost", desc := "(IIII)I" } : Jvm.MethodName) prog_1_method_18_code (6 : Nat) (Option.some Jvm.ClassFile.FieldType.int)) ∈ tb := tb_t 800 (by decide +kernel) (by decide +kernel)
theorem tW_802 : (Jvm.Cond.methodLink "KeepForgetLaw" (157 : Nat) ({ cls := "KeepForgetLaw", name := "why", desc := "(LKeepForget;II[J)I" } : Jvm.MethodName)) ∈ tb := tb_t 802 (by decide +kernel) (by decide +kernel)
theorem tW_803 : (Jvm.Cond.static ({ cls := "KeepForgetLaw", name := "why", desc := "(LKeepForget;II[J)I" } : Jvm.MethodName)) ∈ tb := tb_t 803 (by decide +kernel) (by decide +kernel)
theorem tW_805 : (Jvm.Cond.methodLink "KeepForgetLaw" (62 : Nat) ({ cls := "KeepForget", name := "why", desc := "(II)I" } : Jvm.MethodName)) ∈ tb := tb_t 805 (by decide +kernel) (by decide +kernel)
theorem tW_806 : (Jvm.Cond.instanceMethod ({ cls := "KeepForget", name := "why", desc := "(II)I" } : Jvm.MethodName)) ∈ tb := tb_t 806 (by decide +kernel) (by decide +kernel)
theorem tW_807 : (Jvm.Cond.selects "KeepForget" ({ cls := "KeepForget", name := "why", desc := "(II)I" } : Jvm.MethodName) ({ cls := "KeepForget", name := "why", desc := "(II)I" } : Jvm.MethodName)) ∈ tb := tb_t 807 (by decide +kernel) (by decide +kernel)
theorem tW_808 : (Jvm.Cond.code ({ cls := "KeepForget", name := "why", desc := "(II)I" } : Jvm.MethodName) prog_1_method_19_code (4 : Nat) (Option.some Jvm.ClassFile.FieldType.int)) ∈ tb := tb_t 808 (by decide +kernel) (by decide +kernel)
theorem tW_809 : (Jvm.Cond.methodLink "KeepForgetLaw" (160 : Nat) ({ cls := "KeepForgetLaw", name := "places", desc := "(LKeepForget;II[J)I" } : Jvm.MethodName)) ∈ tb := tb_t 809 (by decide +kernel) (by decide +kernel)
theorem tW_810 : (Jvm.Cond.static ({ cls := "KeepForgetLaw", name := "places", desc := "(LKeepForget;II[J)I" } : Jvm.MethodName)) ∈ tb := tb_t 810 (by decide +kernel) (by decide +kernel)
theorem tW_812 : (Jvm.Cond.methodLink "KeepForgetLaw" (65 : Nat) ({ cls := "KeepForget", name := "places", desc := "(II)I" } : Jvm.MethodName)) ∈ tb := tb_t 812 (by decide +kernel) (by decide +kernel)
theorem tW_813 : (Jvm.Cond.instanceMethod ({ cls := "KeepForget", name := "places", desc := "(II)I" } : Jvm.MethodName)) ∈ tb := tb_t 813 (by decide +kernel) (by decide +kernel)
theorem tW_814 : (Jvm.Cond.selects "KeepForget" ({ cls := "KeepForget", name := "places", desc := "(II)I" } : Jvm.MethodName) ({ cls := "KeepForget", name := "places", desc := "(II)I" } : Jvm.MethodName)) ∈ tb := tb_t 814 (by decide +kernel) (by decide +kernel)
theorem tW_815 : (Jvm.Cond.code ({ cls := "KeepForget", name := "places", desc := "(II)I" } : Jvm.MethodName) prog_1_method_20_code (4 : Nat) (Option.some Jvm.ClassFile.FieldType.int)) ∈ tb := tb_t 815 (by decide +kernel) (by decide +kernel)
theorem tW_816 : (Jvm.Cond.methodLink "KeepForgetLaw" (167 : Nat) ({ cls := "KeepForgetLaw", name := "planned", desc := "(LKeepForget;III[J)I" } : Jvm.MethodName)) ∈ tb := tb_t 816 (by decide +kernel) (by decide +kernel)
theorem tW_817 : (Jvm.Cond.static ({ cls := "KeepForgetLaw", name := "planned", desc := "(LKeepForget;III[J)I" } : Jvm.MethodName)) ∈ tb := tb_t 817 (by decide +kernel) (by decide +kernel)
theorem tW_819 : (Jvm.Cond.methodLink "KeepForgetLaw" (68 : Nat) ({ cls := "KeepForget", name := "planned", desc := "(III)I" } : Jvm.MethodName)) ∈ tb := tb_t 819 (by decide +kernel) (by decide +kernel)
theorem tW_820 : (Jvm.Cond.instanceMethod ({ cls := "KeepForget", name := "planned", desc := "(III)I" } : Jvm.MethodName)) ∈ tb := tb_t 820 (by decide +kernel) (by decide +kernel)
theorem tW_821 : (Jvm.Cond.selects "KeepForget" ({ cls := "KeepForget", name := "planned", desc := "(III)I" } : Jvm.MethodName) ({ cls := "KeepForget", name := "planned", desc := "(III)I" } : Jvm.MethodName)) ∈ tb := tb_t 821 (by decide +kernel) (by decide +kernel)
theorem tW_822 : (Jvm.Cond.code ({ cls := "KeepForget", name := "planned", desc := "(III)I" } : Jvm.MethodName) prog_1_method_22_code (5 : Nat) (Option.some Jvm.ClassFile.FieldType.int)) ∈ tb := tb_t 822 (by decide +kernel) (by decide +kernel)
theorem tW_823 : (Jvm.Cond.methodLink "KeepForget" (243 : Nat) ({ cls := "KeepForget", name := "plannedDay", desc := "(LKeepForget$Thing;IILKeepForget$RuleSet;)I" } : Jvm.MethodName)) ∈ tb := tb_t 823 (by decide +kernel) (by decide +kernel)
theorem tW_825 : (Jvm.Cond.instanceMethod ({ cls := "KeepForget", name := "plannedDay", desc := "(LKeepForget$Thing;IILKeepForget$RuleSet;)I" } : Jvm.MethodName)) ∈ tb := tb_t 825 (by decide +kernel) (by decide +kernel)
theorem tW_826 : (Jvm.Cond.code ({ cls := "KeepForget", name := "plannedDay", desc := "(LKeepForget$Thing;IILKeepForget$RuleSet;)I" } : Jvm.MethodName) prog_1_method_41_code (6 : Nat) (Option.some Jvm.ClassFile.FieldType.int)) ∈ tb := tb_t 826 (by decide +kernel) (by decide +kernel)
theorem tW_827 : (Jvm.Cond.methodLink "KeepForget" (318 : Nat) ({ cls := "java/lang/Math", name := "max", desc := "(II)I" } : Jvm.MethodName)) ∈ tb := tb_t 827 (by decide +kernel) (by decide +kernel)
theorem tW_828 : (Jvm.Cond.methodLink "KeepForget" (270 : Nat) ({ cls := "KeepForget$Sweeper", name := "firstFrom", desc := "(I)I" } : Jvm.MethodName)) ∈ tb := tb_t 828 (by decide +kernel) (by decide +kernel)
theorem tW_829 : (Jvm.Cond.instanceMethod ({ cls := "KeepForget$Sweeper", name := "firstFrom", desc := "(I)I" } : Jvm.MethodName)) ∈ tb := tb_t 829 (by decide +kernel) (by decide +kernel)
theorem tW_830 : (Jvm.Cond.selects "KeepForget$Sweeper" ({ cls := "KeepForget$Sweeper", name := "firstFrom", desc := "(I)I" } : Jvm.MethodName) ({ cls := "KeepForget$Sweeper", name := "firstFrom", desc := "(I)I" } : Jvm.MethodName)) ∈ tb := tb_t 830 (by decide +kernel) (by decide +kernel)
theorem tW_831 : (Jvm.Cond.code ({ cls := "KeepForget$Sweeper", name := "firstFrom", desc := "(I)I" } : Jvm.MethodName) prog_9_method_2_code (4 : Nat) (Option.some Jvm.ClassFile.FieldType.int)) ∈ tb := tb_t 831 (by decide +kernel) (by decide +kernel)
theorem tW_832 : (Jvm.Cond.constant "KeepForget$Sweeper" (18 : Nat) (200000 : Int32)) ∈ tb := tb_t 832 (by decide +kernel) (by decide +kernel)
theorem tW_833 : (Jvm.Cond.constant "KeepForget$Sweeper" (19 : Nat) (999999 : Int32)) ∈ tb := tb_t 833 (by decide +kernel) (by decide +kernel)
theorem tW_834 : (Jvm.Cond.constant "KeepForget" (323 : Nat) (999999 : Int32)) ∈ tb := tb_t 834 (by decide +kernel) (by decide +kernel)
theorem tW_835 : (Jvm.Cond.methodLink "KeepForgetLaw" (170 : Nat) ({ cls := "KeepForgetLaw", name := "differ", desc := "(LKeepForget;II[J)I" } : Jvm.MethodName)) ∈ tb := tb_t 835 (by decide +kernel) (by decide +kernel)
theorem tW_836 : (Jvm.Cond.static ({ cls := "KeepForgetLaw", name := "differ", desc := "(LKeepForget;II[J)I" } : Jvm.MethodName)) ∈ tb := tb_t 836 (by decide +kernel) (by decide +kernel)
theorem tW_838 : (Jvm.Cond.methodLink "KeepForgetLaw" (71 : Nat) ({ cls := "KeepForget", name := "differ", desc := "(II)I" } : Jvm.MethodName)) ∈ tb := tb_t 838 (by decide +kernel) (by decide +kernel)
theorem tW_839 : (Jvm.Cond.instanceMethod ({ cls := "KeepForget", name := "differ", desc := "(II)I" } : Jvm.MethodName)) ∈ tb := tb_t 839 (by decide +kernel) (by decide +kernel)
theorem tW_840 : (Jvm.Cond.selects "KeepForget" ({ cls := "KeepForget", name := "differ", desc := "(II)I" } : Jvm.MethodName) ({ cls := "KeepForget", name := "differ", desc := "(II)I" } : Jvm.MethodName)) ∈ tb := tb_t 840 (by decide +kernel) (by decide +kernel)
theorem tW_841 : (Jvm.Cond.code ({ cls := "KeepForget", name := "differ", desc := "(II)I" } : Jvm.MethodName) prog_1_method_23_code (10 : Nat) (Option.some Jvm.ClassFile.FieldType.int)) ∈ tb := tb_t 841 (by decide +kernel) (by decide +kernel)
theorem tW_842 : (Jvm.Cond.methodLink "KeepForgetLaw" (173 : Nat) ({ cls := "KeepForgetLaw", name := "bites", desc := "(LKeepForget;II[J)I" } : Jvm.MethodName)) ∈ tb := tb_t 842 (by decide +kernel) (by decide +kernel)
theorem tW_843 : (Jvm.Cond.static ({ cls := "KeepForgetLaw", name := "bites", desc := "(LKeepForget;II[J)I" } : Jvm.MethodName)) ∈ tb := tb_t 843 (by decide +kernel) (by decide +kernel)
theorem tW_845 : (Jvm.Cond.methodLink "KeepForgetLaw" (74 : Nat) ({ cls := "KeepForget", name := "bites", desc := "(II)Z" } : Jvm.MethodName)) ∈ tb := tb_t 845 (by decide +kernel) (by decide +kernel)
theorem tW_846 : (Jvm.Cond.instanceMethod ({ cls := "KeepForget", name := "bites", desc := "(II)Z" } : Jvm.MethodName)) ∈ tb := tb_t 846 (by decide +kernel) (by decide +kernel)
theorem tW_847 : (Jvm.Cond.selects "KeepForget" ({ cls := "KeepForget", name := "bites", desc := "(II)Z" } : Jvm.MethodName) ({ cls := "KeepForget", name := "bites", desc := "(II)Z" } : Jvm.MethodName)) ∈ tb := tb_t 847 (by decide +kernel) (by decide +kernel)
theorem tW_848 : (Jvm.Cond.code ({ cls := "KeepForget", name := "bites", desc := "(II)Z" } : Jvm.MethodName) prog_1_method_24_code (6 : Nat) (Option.some Jvm.ClassFile.FieldType.boolean)) ∈ tb := tb_t 848 (by decide +kernel) (by decide +kernel)
theorem tW_850 : (Jvm.Cond.methodLink "KeepForget" (259 : Nat) ({ cls := "KeepForget$Rule", name := "isFor", desc := "(LKeepForget$Thing;I)Z" } : Jvm.MethodName)) ∈ tb := tb_t 850 (by decide +kernel) (by decide +kernel)
theorem tW_851 : (Jvm.Cond.methodLink "KeepForgetLaw" (176 : Nat) ({ cls := "KeepForgetLaw", name := "days", desc := "(LKeepForget;I[J)I" } : Jvm.MethodName)) ∈ tb := tb_t 851 (by decide +kernel) (by decide +kernel)
theorem tW_852 : (Jvm.Cond.static ({ cls := "KeepForgetLaw", name := "days", desc := "(LKeepForget;I[J)I" } : Jvm.MethodName)) ∈ tb := tb_t 852 (by decide +kernel) (by decide +kernel)
theorem tW_854 : (Jvm.Cond.methodLink "KeepForgetLaw" (78 : Nat) ({ cls := "KeepForget", name := "days", desc := "(I)I" } : Jvm.MethodName)) ∈ tb := tb_t 854 (by decide +kernel) (by decide +kernel)
theorem tW_855 : (Jvm.Cond.instanceMethod ({ cls := "KeepForget", name := "days", desc := "(I)I" } : Jvm.MethodName)) ∈ tb := tb_t 855 (by decide +kernel) (by decide +kernel)
theorem tW_856 : (Jvm.Cond.selects "KeepForget" ({ cls := "KeepForget", name := "days", desc := "(I)I" } : Jvm.MethodName) ({ cls := "KeepForget", name := "days", desc := "(I)I" } : Jvm.MethodName)) ∈ tb := tb_t 856 (by decide +kernel) (by decide +kernel)
theorem tW_857 : (Jvm.Cond.code ({ cls := "KeepForget", name := "days", desc := "(I)I" } : Jvm.MethodName) prog_1_method_25_code (5 : Nat) (Option.some Jvm.ClassFile.FieldType.int)) ∈ tb := tb_t 857 (by decide +kernel) (by decide +kernel)
theorem tW_859 : (Jvm.Cond.methodLink "KeepForget" (267 : Nat) ({ cls := "KeepForget", name := "nextBusyDay", desc := "(I)I" } : Jvm.MethodName)) ∈ tb := tb_t 859 (by decide +kernel) (by decide +kernel)
theorem tW_861 : (Jvm.Cond.instanceMethod ({ cls := "KeepForget", name := "nextBusyDay", desc := "(I)I" } : Jvm.MethodName)) ∈ tb := tb_t 861 (by decide +kernel) (by decide +kernel)
theorem tW_862 : (Jvm.Cond.code ({ cls := "KeepForget", name := "nextBusyDay", desc := "(I)I" } : Jvm.MethodName) prog_1_method_42_code (7 : Nat) (Option.some Jvm.ClassFile.FieldType.int)) ∈ tb := tb_t 862 (by decide +kernel) (by decide +kernel)
theorem tW_863 : (Jvm.Cond.methodLink "KeepForget" (324 : Nat) ({ cls := "java/lang/Math", name := "min", desc := "(II)I" } : Jvm.MethodName)) ∈ tb := tb_t 863 (by decide +kernel) (by decide +kernel)
theorem tW_864 : (Jvm.Cond.methodLink "KeepForget" (273 : Nat) ({ cls := "KeepForget", name := "sweep", desc := "(I)V" } : Jvm.MethodName)) ∈ tb := tb_t 864 (by decide +kernel) (by decide +kernel)
theorem tW_866 : (Jvm.Cond.instanceMethod ({ cls := "KeepForget", name := "sweep", desc := "(I)V" } : Jvm.MethodName)) ∈ tb := tb_t 866 (by decide +kernel) (by decide +kernel)
theorem tW_867 : (Jvm.Cond.code ({ cls := "KeepForget", name := "sweep", desc := "(I)V" } : Jvm.MethodName) prog_1_method_43_code (5 : Nat) (Option.none : Option Jvm.ClassFile.FieldType)) ∈ tb := tb_t 867 (by decide +kernel) (by decide +kernel)
theorem tW_868 : (Jvm.Cond.methodLink "KeepForget" (327 : Nat) ({ cls := "KeepForget$Log", name := "add", desc := "(IIIILKeepForget$Span;)V" } : Jvm.MethodName)) ∈ tb := tb_t 868 (by decide +kernel) (by decide +kernel)
theorem tW_869 : (Jvm.Cond.instanceMethod ({ cls := "KeepForget$Log", name := "add", desc := "(IIIILKeepForget$Span;)V" } : Jvm.MethodName)) ∈ tb := tb_t 869 (by decide +kernel) (by decide +kernel)
theorem tW_870 : (Jvm.Cond.selects "KeepForget$Log" ({ cls := "KeepForget$Log", name := "add", desc := "(IIIILKeepForget$Span;)V" } : Jvm.MethodName) ({ cls := "KeepForget$Log", name := "add", desc := "(IIIILKeepForget$Span;)V" } : Jvm.MethodName)) ∈ tb := tb_t 870 (by decide +kernel) (by decide +kernel)
theorem tW_871 : (Jvm.Cond.code ({ cls := "KeepForget$Log", name := "add", desc := "(IIIILKeepForget$Span;)V" } : Jvm.MethodName) prog_4_method_2_code (7 : Nat) (Option.none : Option Jvm.ClassFile.FieldType)) ∈ tb := tb_t 871 (by decide +kernel) (by decide +kernel)
theorem tW_872 : (Jvm.Cond.methodLink "KeepForgetLaw" (179 : Nat) ({ cls := "KeepForgetLaw", name := "entry", desc := "(LKeepForget;II[J)I" } : Jvm.MethodName)) ∈ tb := tb_t 872 (by decide +kernel) (by decide +kernel)
theorem tW_873 : (Jvm.Cond.static ({ cls := "KeepForgetLaw", name := "entry", desc := "(LKeepForget;II[J)I" } : Jvm.MethodName)) ∈ tb := tb_t 873 (by decide +kernel) (by decide +kernel)
theorem tW_875 : (Jvm.Cond.methodLink "KeepForgetLaw" (81 : Nat) ({ cls := "KeepForget", name := "entry", desc := "(II)I" } : Jvm.MethodName)) ∈ tb := tb_t 875 (by decide +kernel) (by decide +kernel)
theorem tW_876 : (Jvm.Cond.instanceMethod ({ cls := "KeepForget", name := "entry", desc := "(II)I" } : Jvm.MethodName)) ∈ tb := tb_t 876 (by decide +kernel) (by decide +kernel)
theorem tW_877 : (Jvm.Cond.selects "KeepForget" ({ cls := "KeepForget", name := "entry", desc := "(II)I" } : Jvm.MethodName) ({ cls := "KeepForget", name := "entry", desc := "(II)I" } : Jvm.MethodName)) ∈ tb := tb_t 877 (by decide +kernel) (by decide +kernel)
theorem tW_878 : (Jvm.Cond.code ({ cls := "KeepForget", name := "entry", desc := "(II)I" } : Jvm.MethodName) prog_1_method_26_code (3 : Nat) (Option.some Jvm.ClassFile.FieldType.int)) ∈ tb := tb_t 878 (by decide +kernel) (by decide +kernel)
theorem tW_880 : (Jvm.Cond.methodLink "KeepForgetLaw" (182 : Nat) ({ cls := "KeepForgetLaw", name := "count", desc := "(LKeepForget;I[J)I" } : Jvm.MethodName)) ∈ tb := tb_t 880 (by decide +kernel) (by decide +kernel)
theorem tW_881 : (Jvm.Cond.static ({ cls := "KeepForgetLaw", name := "count", desc := "(LKeepForget;I[J)I" } : Jvm.MethodName)) ∈ tb := tb_t 881 (by decide +kernel) (by decide +kernel)
theorem tW_883 : (Jvm.Cond.methodLink "KeepForgetLaw" (84 : Nat) ({ cls := "KeepForget", name := "count", desc := "(I)I" } : Jvm.MethodName)) ∈ tb := tb_t 883 (by decide +kernel) (by decide +kernel)
theorem tW_884 : (Jvm.Cond.instanceMethod ({ cls := "KeepForget", name := "count", desc := "(I)I" } : Jvm.MethodName)) ∈ tb := tb_t 884 (by decide +kernel) (by decide +kernel)
theorem tW_885 : (Jvm.Cond.selects "KeepForget" ({ cls := "KeepForget", name := "count", desc := "(I)I" } : Jvm.MethodName) ({ cls := "KeepForget", name := "count", desc := "(I)I" } : Jvm.MethodName)) ∈ tb := tb_t 885 (by decide +kernel) (by decide +kernel)
theorem tW_886 : (Jvm.Cond.code ({ cls := "KeepForget", name := "count", desc := "(I)I" } : Jvm.MethodName) prog_1_method_27_code (3 : Nat) (Option.some Jvm.ClassFile.FieldType.int)) ∈ tb := tb_t 886 (by decide +kernel) (by decide +kernel)
theorem tW_887 : (Jvm.Cond.methodLink "KeepForget" (291 : Nat) ({ cls := "KeepForget", name := "copyCount", desc := "()I" } : Jvm.MethodName)) ∈ tb := tb_t 887 (by decide +kernel) (by decide +kernel)
theorem tW_889 : (Jvm.Cond.instanceMethod ({ cls := "KeepForget", name := "copyCount", desc := "()I" } : Jvm.MethodName)) ∈ tb := tb_t 889 (by decide +kernel) (by decide +kernel)
theorem tW_890 : (Jvm.Cond.code ({ cls := "KeepForget", name := "copyCount", desc := "()I" } : Jvm.MethodName) prog_1_method_40_code (4 : Nat) (Option.some Jvm.ClassFile.FieldType.int)) ∈ tb := tb_t 890 (by decide +kernel) (by decide +kernel)
theorem tW_891 : (Jvm.Cond.methodLink "KeepForget" (294 : Nat) ({ cls := "KeepForget", name := "openHoldCount", desc := "()I" } : Jvm.MethodName)) ∈ tb := tb_t 891 (by decide +kernel) (by decide +kernel)
theorem tW_893 : (Jvm.Cond.instanceMethod ({ cls := "KeepForget", name := "openHoldCount", desc := "()I" } : Jvm.MethodName)) ∈ tb := tb_t 893 (by decide +kernel) (by decide +kernel)
theorem tW_894 : (Jvm.Cond.code ({ cls := "KeepForget", name := "openHoldCount", desc := "()I" } : Jvm.MethodName) prog_1_method_39_code (3 : Nat) (Option.some Jvm.ClassFile.FieldType.int)) ∈ tb := tb_t 894 (by decide +kernel) (by decide +kernel)
theorem tW_896 : (Jvm.Cond.classLink "KeepForgetLaw" (88 : Nat) "KeepForgetModel") ∈ tb := tb_t 896 (by decide +kernel) (by decide +kernel)
theorem tW_897 : (Jvm.Cond.instantiable "KeepForgetModel" (60 : Nat)) ∈ tb := tb_t 897 (by decide +kernel) (by decide +kernel)
theorem tW_898 : (Jvm.Cond.methodLink "KeepForgetLaw" (90 : Nat) ({ cls := "KeepForgetModel", name := "<init>", desc := "()V" } : Jvm.MethodName)) ∈ tb := tb_t 898 (by decide +kernel) (by decide +kernel)
theorem tW_899 : (Jvm.Cond.instanceMethod ({ cls := "KeepForgetModel", name := "<init>", desc := "()V" } : Jvm.MethodName)) ∈ tb := tb_t 899 (by decide +kernel) (by decide +kernel)
theorem tW_900 : (Jvm.Cond.code ({ cls := "KeepForgetModel", name := "<init>", desc := "()V" } : Jvm.MethodName) prog_12_method_1_code (2 : Nat) (Option.none : Option Jvm.ClassFile.FieldType)) ∈ tb := tb_t 900 (by decide +kernel) (by decide +kernel)
theorem tW_901 : (Jvm.Cond.methodLink "KeepForgetModel" (1 : Nat) ({ cls := "java/lang/Object", name := "<init>", desc := "()V" } : Jvm.MethodName)) ∈ tb := tb_t 901 (by decide +kernel) (by decide +kernel)
theorem tW_902 : (Jvm.Cond.fieldLink "KeepForgetModel" (126 : Nat) "KeepForgetModel" "code" "I") ∈ tb := tb_t 902 (by decide +kernel) (by decide +kernel)
theorem tW_903 : (Jvm.Cond.fieldLink "KeepForgetModel" (313 : Nat) "KeepForgetModel" "now" "I") ∈ tb := tb_t 903 (by decide +kernel) (by decide +kernel)
theorem tW_904 : (Jvm.Cond.fieldLink "KeepForgetModel" (278 : Nat) "KeepForgetModel" "things" "I") ∈ tb := tb_t 904 (by decide +kernel) (by decide +kernel)
theorem tW_905 : (Jvm.Cond.fieldLink "KeepForgetModel" (270 : Nat) "KeepForgetModel" "sets" "I") ∈ tb := tb_t 905 (by decide +kernel) (by decide +kernel)
theorem tW_906 : (Jvm.Cond.fieldLink "KeepForgetModel" (339 : Nat) "KeepForgetModel" "holds" "I") ∈ tb := tb_t 906 (by decide +kernel) (by decide +kernel)
theorem tW_907 : (Jvm.Cond.fieldLink "KeepForgetModel" (354 : Nat) "KeepForgetModel" "logged" "I") ∈ tb := tb_t 907 (by decide +kernel) (by decide +kernel)
theorem tW_908 : (Jvm.Cond.fieldLink "KeepForgetModel" (351 : Nat) "KeepForgetModel" "late" "I") ∈ tb := tb_t 908 (by decide +kernel) (by decide +kernel)
theorem tW_909 : (Jvm.Cond.fieldLink "KeepForgetModel" (171 : Nat) "KeepForgetModel" "taped" "I") ∈ tb := tb_t 909 (by decide +kernel) (by decide +kernel)
theorem tW_910 : (Jvm.Cond.fieldLink "KeepForgetModel" (9 : Nat) "KeepForgetModel" "faultPlace" "I") ∈ tb := tb_t 910 (by decide +kernel) (by decide +kernel)
theorem tW_911 : (Jvm.Cond.fieldLink "KeepForgetModel" (13 : Nat) "KeepForgetModel" "kind" "[I") ∈ tb := tb_t 911 (by decide +kernel) (by decide +kernel)
theorem tW_912 : (Jvm.Cond.fieldLink "KeepForgetModel" (17 : Nat) "KeepForgetModel" "fact" "[I") ∈ tb := tb_t 912 (by decide +kernel) (by decide +kernel)
theorem tW_913 : (Jvm.Cond.fieldLink "KeepForgetModel" (20 : Nat) "KeepForgetModel" "event" "[I") ∈ tb := tb_t 913 (by decide +kernel) (by decide +kernel)
theorem tW_914 : (Jvm.Cond.fieldLink "KeepForgetModel" (23 : Nat) "KeepForgetModel" "copyBits" "[I") ∈ tb := tb_t 914 (by decide +kernel) (by decide +kernel)
theorem tW_915 : (Jvm.Cond.fieldLink "KeepForgetModel" (26 : Nat) "KeepForgetModel" "isWished" "[Z") ∈ tb := tb_t 915 (by decide +kernel) (by decide +kernel)
theorem tW_916 : (Jvm.Cond.fieldLink "KeepForgetModel" (30 : Nat) "KeepForgetModel" "every" "[I") ∈ tb := tb_t 916 (by decide +kernel) (by decide +kernel)
theorem tW_917 : (Jvm.Cond.fieldLink "KeepForgetModel" (33 : Nat) "KeepForgetModel" "first" "[I") ∈ tb := tb_t 917 (by decide +kernel) (by decide +kernel)
theorem tW_918 : (Jvm.Cond.fieldLink "KeepForgetModel" (36 : Nat) "KeepForgetModel" "holdThing" "[I") ∈ tb := tb_t 918 (by decide +kernel) (by decide +kernel)
theorem tW_919 : (Jvm.Cond.fieldLink "KeepForgetModel" (39 : Nat) "KeepForgetModel" "holdFields" "[I") ∈ tb := tb_t 919 (by decide +kernel) (by decide +kernel)
theorem tW_920 : (Jvm.Cond.fieldLink "KeepForgetModel" (42 : Nat) "KeepForgetModel" "isLifted" "[Z") ∈ tb := tb_t 920 (by decide +kernel) (by decide +kernel)
theorem tW_921 : (Jvm.Cond.fieldLink "KeepForgetModel" (45 : Nat) "KeepForgetModel" "logThing" "[I") ∈ tb := tb_t 921 (by decide +kernel) (by decide +kernel)
theorem tW_922 : (Jvm.Cond.fieldLink "KeepForgetModel" (48 : Nat) "KeepForgetModel" "logField" "[I") ∈ tb := tb_t 922 (by decide +kernel) (by decide +kernel)
theorem tW_923 : (Jvm.Cond.fieldLink "KeepForgetModel" (51 : Nat) "KeepForgetModel" "logStore" "[I") ∈ tb := tb_t 923 (by decide +kernel) (by decide +kernel)
theorem tW_924 : (Jvm.Cond.fieldLink "KeepForgetModel" (54 : Nat) "KeepForgetModel" "logDay" "[I") ∈ tb := tb_t 924 (by decide +kernel) (by decide +kernel)
theorem tW_925 : (Jvm.Cond.fieldLink "KeepForgetModel" (57 : Nat) "KeepForgetModel" "logRule" "[I") ∈ tb := tb_t 925 (by decide +kernel) (by decide +kernel)
theorem tW_926 : (Jvm.Cond.fieldLink "KeepForgetModel" (60 : Nat) "KeepForgetModel" "setDay" "[I") ∈ tb := tb_t 926 (by decide +kernel) (by decide +kernel)
theorem tW_927 : (Jvm.Cond.fieldLink "KeepForgetModel" (63 : Nat) "KeepForgetModel" "ruleMany" "[I") ∈ tb := tb_t 927 (by decide +kernel) (by decide +kernel)
theorem tW_928 : (Jvm.Cond.fieldLink "KeepForgetModel" (66 : Nat) "KeepForgetModel" "what" "[I") ∈ tb := tb_t 928 (by decide +kernel) (by decide +kernel)
theorem tW_929 : (Jvm.Cond.fieldLink "KeepForgetModel" (69 : Nat) "KeepForgetModel" "ofKind" "[I") ∈ tb := tb_t 929 (by decide +kernel) (by decide +kernel)
theorem tW_930 : (Jvm.Cond.fieldLink "KeepForgetModel" (72 : Nat) "KeepForgetModel" "ofField" "[I") ∈ tb := tb_t 930 (by decide +kernel) (by decide +kernel)
theorem tW_931 : (Jvm.Cond.fieldLink "KeepForgetModel" (75 : Nat) "KeepForgetModel" "long0" "[I") ∈ tb := tb_t 931 (by decide +kernel) (by decide +kernel)
theorem tW_932 : (Jvm.Cond.fieldLink "KeepForgetModel" (78 : Nat) "KeepForgetModel" "unit" "[I") ∈ tb := tb_t 932 (by decide +kernel) (by decide +kernel)
theorem tW_933 : (Jvm.Cond.fieldLink "KeepForgetModel" (81 : Nat) "KeepForgetModel" "from" "[I") ∈ tb := tb_t 933 (by decide +kernel) (by decide +kernel)
theorem tW_934 : (Jvm.Cond.fieldLink "KeepForgetModel" (84 : Nat) "KeepForgetModel" "stores" "[I") ∈ tb := tb_t 934 (by decide +kernel) (by decide +kernel)
theorem tW_935 : (Jvm.Cond.fieldLink "KeepForgetModel" (87 : Nat) "KeepForgetModel" "rank" "[I") ∈ tb := tb_t 935 (by decide +kernel) (by decide +kernel)
theorem tW_936 : (Jvm.Cond.fieldLink "KeepForgetModel" (90 : Nat) "KeepForgetModel" "testMany" "[I") ∈ tb := tb_t 936 (by decide +kernel) (by decide +kernel)
theorem tW_937 : (Jvm.Cond.fieldLink "KeepForgetModel" (93 : Nat) "KeepForgetModel" "testFact" "[I") ∈ tb := tb_t 937 (by decide +kernel) (by decide +kernel)
theorem tW_938 : (Jvm.Cond.fieldLink "KeepForgetModel" (96 : Nat) "KeepForgetModel" "testNumber" "[I") ∈ tb := tb_t 938 (by decide +kernel) (by decide +kernel)
theorem tW_939 : (Jvm.Cond.fieldLink "KeepForgetModel" (99 : Nat) "KeepForgetModel" "isLess" "[Z") ∈ tb := tb_t 939 (by decide +kernel) (by decide +kernel)
theorem tW_940 : (Jvm.Cond.fieldLink "KeepForgetModel" (102 : Nat) "KeepForgetModel" "tape" "[I") ∈ tb := tb_t 940 (by decide +kernel) (by decide +kernel)
theorem tW_941 : (Jvm.Cond.fieldLink "KeepForgetModel" (177 : Nat) "KeepForgetModel" "at" "I") ∈ tb := tb_t 941 (by decide +kernel) (by decide +kernel)
theorem tW_942 : (Jvm.Cond.fieldLink "KeepForgetModel" (174 : Nat) "KeepForgetModel" "size" "I") ∈ tb := tb_t 942 (by decide +kernel) (by decide +kernel)
theorem tW_943 : (Jvm.Cond.fieldLink "KeepForgetModel" (189 : Nat) "KeepForgetModel" "token" "I") ∈ tb := tb_t 943 (by decide +kernel) (by decide +kernel)
theorem tW_944 : (Jvm.Cond.fieldLink "KeepForgetModel" (186 : Nat) "KeepForgetModel" "sign" "I") ∈ tb := tb_t 944 (by decide +kernel) (by decide +kernel)
theorem tW_945 : (Jvm.Cond.fieldLink "KeepForgetModel" (183 : Nat) "KeepForgetModel" "begins" "I") ∈ tb := tb_t 945 (by decide +kernel) (by decide +kernel)
theorem tW_946 : (Jvm.Cond.fieldLink "KeepForgetModel" (198 : Nat) "KeepForgetModel" "ends" "I") ∈ tb := tb_t 946 (by decide +kernel) (by decide +kernel)
theorem tW_947 : (Jvm.Cond.fieldLink "KeepForgetModel" (201 : Nat) "KeepForgetModel" "bad" "I") ∈ tb := tb_t 947 (by decide +kernel) (by decide +kernel)
theorem tW_948 : (Jvm.Cond.fieldLink "KeepForgetModel" (204 : Nat) "KeepForgetModel" "badPlace" "I") ∈ tb := tb_t 948 (by decide +kernel) (by decide +kernel)
theorem tW_949 : (Jvm.Cond.fieldLink "KeepForgetModel" (233 : Nat) "KeepForgetModel" "rule" "I") ∈ tb := tb_t 949 (by decide +kernel) (by decide +kernel)
theorem tW_950 : (Jvm.Cond.fieldLink "KeepForgetModel" (284 : Nat) "KeepForgetModel" "spanFrom" "I") ∈ tb := tb_t 950 (by decide +kernel) (by decide +kernel)
theorem tW_951 : (Jvm.Cond.fieldLink "KeepForgetModel" (287 : Nat) "KeepForgetModel" "spanTo" "I") ∈ tb := tb_t 951 (by decide +kernel) (by decide +kernel)
theorem tW_952 : (Jvm.Cond.fieldLink "KeepForgetModel" (299 : Nat) "KeepForgetModel" "byFrom" "I") ∈ tb := tb_t 952 (by decide +kernel) (by decide +kernel)
theorem tW_953 : (Jvm.Cond.fieldLink "KeepForgetModel" (302 : Nat) "KeepForgetModel" "byTo" "I") ∈ tb := tb_t 953 (by decide +kernel) (by decide +kernel)
theorem tW_954 : (Jvm.Cond.fieldLink "KeepForgetModel" (296 : Nat) "KeepForgetModel" "losts" "I") ∈ tb := tb_t 954 (by decide +kernel) (by decide +kernel)
theorem tW_955 : (Jvm.Cond.fieldLink "KeepForgetModel" (105 : Nat) "KeepForgetModel" "lostRow" "[I") ∈ tb := tb_t 955 (by decide +kernel) (by decide +kernel)
theorem tW_956 : (Jvm.Cond.fieldLink "KeepForgetModel" (108 : Nat) "KeepForgetModel" "keptSet" "I") ∈ tb := tb_t 956 (by decide +kernel) (by decide +kernel)
theorem tW_957 : (Jvm.Cond.fieldLink "KeepForgetModel" (111 : Nat) "KeepForgetModel" "isKept" "[Z") ∈ tb := tb_t 957 (by decide +kernel) (by decide +kernel)
theorem tW_958 : (Jvm.Cond.fieldLink "KeepForgetModel" (114 : Nat) "KeepForgetModel" "keptFrom" "[I") ∈ tb := tb_t 958 (by decide +kernel) (by decide +kernel)
theorem tW_959 : (Jvm.Cond.fieldLink "KeepForgetModel" (117 : Nat) "KeepForgetModel" "keptTo" "[I") ∈ tb := tb_t 959 (by decide +kernel) (by decide +kernel)
theorem tW_960 : (Jvm.Cond.fieldLink "KeepForgetModel" (120 : Nat) "KeepForgetModel" "keptBy" "[I") ∈ tb := tb_t 960 (by decide +kernel) (by decide +kernel)
theorem tW_961 : (Jvm.Cond.fieldLink "KeepForgetModel" (123 : Nat) "KeepForgetModel" "heldBits" "[I") ∈ tb := tb_t 961 (by decide +kernel) (by decide +kernel)
theorem tW_1083 : (Jvm.Cond.methodLink "KeepForgetLaw" (97 : Nat) ({ cls := "KeepForgetModel", name := "thrown", desc := "()I" } : Jvm.MethodName)) ∈ tb := tb_t 1083 (by decide +kernel) (by decide +kernel)
theorem tW_1084 : (Jvm.Cond.instanceMethod ({ cls := "KeepForgetModel", name := "thrown", desc := "()I" } : Jvm.MethodName)) ∈ tb := tb_t 1084 (by decide +kernel) (by decide +kernel)
theorem tW_1085 : (Jvm.Cond.selects "KeepForgetModel" ({ cls := "KeepForgetModel", name := "thrown", desc := "()I" } : Jvm.MethodName) ({ cls := "KeepForgetModel", name := "thrown", desc := "()I" } : Jvm.MethodName)) ∈ tb := tb_t 1085 (by decide +kernel) (by decide +kernel)
theorem tW_1086 : (Jvm.Cond.code ({ cls := "KeepForgetModel", name := "thrown", desc := "()I" } : Jvm.MethodName) prog_12_method_2_code (1 : Nat) (Option.some Jvm.ClassFile.FieldType.int)) ∈ tb := tb_t 1086 (by decide +kernel) (by decide +kernel)
theorem tW_1087 : (Jvm.Cond.methodLink "KeepForgetLaw" (96 : Nat) ({ cls := "KeepForgetModel", name := "day", desc := "(III)I" } : Jvm.MethodName)) ∈ tb := tb_t 1087 (by decide +kernel) (by decide +kernel)
theorem tW_1088 : (Jvm.Cond.instanceMethod ({ cls := "KeepForgetModel", name := "day", desc := "(III)I" } : Jvm.MethodName)) ∈ tb := tb_t 1088 (by decide +kernel) (by decide +kernel)
theorem tW_1089 : (Jvm.Cond.selects "KeepForgetModel" ({ cls := "KeepForgetModel", name := "day", desc := "(III)I" } : Jvm.MethodName) ({ cls := "KeepForgetModel", name := "day", desc := "(III)I" } : Jvm.MethodName)) ∈ tb := tb_t 1089 (by decide +kernel) (by decide +kernel)
theorem tW_1090 : (Jvm.Cond.code ({ cls := "KeepForgetModel", name := "day", desc := "(III)I" } : Jvm.MethodName) prog_12_method_12_code (4 : Nat) (Option.some Jvm.ClassFile.FieldType.int)) ∈ tb := tb_t 1090 (by decide +kernel) (by decide +kernel)
theorem tW_1091 : (Jvm.Cond.methodLink "KeepForgetModel" (140 : Nat) ({ cls := "KeepForgetModel", name := "monthDays", desc := "(II)I" } : Jvm.MethodName)) ∈ tb := tb_t 1091 (by decide +kernel) (by decide +kernel)
theorem tW_1092 : (Jvm.Cond.static ({ cls := "KeepForgetModel", name := "monthDays", desc := "(II)I" } : Jvm.MethodName)) ∈ tb := tb_t 1092 (by decide +kernel) (by decide +kernel)
theorem tW_1093 : (Jvm.Cond.code ({ cls := "KeepForgetModel", name := "monthDays", desc := "(II)I" } : Jvm.MethodName) prog_12_method_7_code (2 : Nat) (Option.some Jvm.ClassFile.FieldType.int)) ∈ tb := tb_t 1093 (by decide +kernel) (by decide +kernel)
theorem tW_1094 : (Jvm.Cond.methodLink "KeepForgetModel" (133 : Nat) ({ cls := "KeepForgetModel", name := "isLeap", desc := "(I)Z" } : Jvm.MethodName)) ∈ tb := tb_t 1094 (by decide +kernel) (by decide +kernel)
theorem tW_1095 : (Jvm.Cond.static ({ cls := "KeepForgetModel", name := "isLeap", desc := "(I)Z" } : Jvm.MethodName)) ∈ tb := tb_t 1095 (by decide +kernel) (by decide +kernel)
theorem tW_1096 : (Jvm.Cond.code ({ cls := "KeepForgetModel", name := "isLeap", desc := "(I)Z" } : Jvm.MethodName) prog_12_method_4_code (1 : Nat) (Option.some Jvm.ClassFile.FieldType.boolean)) ∈ tb := tb_t 1096 (by decide +kernel) (by decide +kernel)
theorem tW_1097 : (Jvm.Cond.methodLink "KeepForgetModel" (148 : Nat) ({ cls := "KeepForgetModel", name := "dayOf", desc := "(III)I" } : Jvm.MethodName)) ∈ tb := tb_t 1097 (by decide +kernel) (by decide +kernel)
theorem tW_1098 : (Jvm.Cond.static ({ cls := "KeepForgetModel", name := "dayOf", desc := "(III)I" } : Jvm.MethodName)) ∈ tb := tb_t 1098 (by decide +kernel) (by decide +kernel)
theorem tW_1099 : (Jvm.Cond.code ({ cls := "KeepForgetModel", name := "dayOf", desc := "(III)I" } : Jvm.MethodName) prog_12_method_8_code (5 : Nat) (Option.some Jvm.ClassFile.FieldType.int)) ∈ tb := tb_t 1099 (by decide +kernel) (by decide +kernel)
theorem tW_1100 : (Jvm.Cond.methodLink "KeepForgetModel" (137 : Nat) ({ cls := "KeepForgetModel", name := "yearDay", desc := "(I)I" } : Jvm.MethodName)) ∈ tb := tb_t 1100 (by decide +kernel) (by decide +kernel)
theorem tW_1101 : (Jvm.Cond.static ({ cls := "KeepForgetModel", name := "yearDay", desc := "(I)I" } : Jvm.MethodName)) ∈ tb := tb_t 1101 (by decide +kernel) (by decide +kernel)
theorem tW_1102 : (Jvm.Cond.code ({ cls := "KeepForgetModel", name := "yearDay", desc := "(I)I" } : Jvm.MethodName) prog_12_method_6_code (1 : Nat) (Option.some Jvm.ClassFile.FieldType.int)) ∈ tb := tb_t 1102 (by decide +kernel) (by decide +kernel)
theorem tW_1103 : (Jvm.Cond.methodLink "KeepForgetModel" (129 : Nat) ({ cls := "KeepForgetModel", name := "leaps", desc := "(I)I" } : Jvm.MethodName)) ∈ tb := tb_t 1103 (by decide +kernel) (by decide +kernel)
theorem tW_1104 : (Jvm.Cond.static ({ cls := "KeepForgetModel", name := "leaps", desc := "(I)I" } : Jvm.MethodName)) ∈ tb := tb_t 1104 (by decide +kernel) (by decide +kernel)
theorem tW_1105 : (Jvm.Cond.code ({ cls := "KeepForgetModel", name := "leaps", desc := "(I)I" } : Jvm.MethodName) prog_12_method_5_code (1 : Nat) (Option.some Jvm.ClassFile.FieldType.int)) ∈ tb := tb_t 1105 (by decide +kernel) (by decide +kernel)
theorem tW_1106 : (Jvm.Cond.constant "KeepForgetModel" (144 : Nat) (200000 : Int32)) ∈ tb := tb_t 1106 (by decide +kernel) (by decide +kernel)
theorem tW_1107 : (Jvm.Cond.methodLink "KeepForgetModel" (152 : Nat) ({ cls := "KeepForgetModel", name := "fail", desc := "(I)I" } : Jvm.MethodName)) ∈ tb := tb_t 1107 (by decide +kernel) (by decide +kernel)
theorem tW_1109 : (Jvm.Cond.instanceMethod ({ cls := "KeepForgetModel", name := "fail", desc := "(I)I" } : Jvm.MethodName)) ∈ tb := tb_t 1109 (by decide +kernel) (by decide +kernel)
theorem tW_1110 : (Jvm.Cond.code ({ cls := "KeepForgetModel", name := "fail", desc := "(I)I" } : Jvm.MethodName) prog_12_method_3_code (2 : Nat) (Option.some Jvm.ClassFile.FieldType.int)) ∈ tb := tb_t 1110 (by decide +kernel) (by decide +kernel)
theorem tW_1111 : (Jvm.Cond.methodLink "KeepForgetLaw" (104 : Nat) ({ cls := "KeepForgetModel", name := "date", desc := "(II)I" } : Jvm.MethodName)) ∈ tb := tb_t 1111 (by decide +kernel) (by decide +kernel)
theorem tW_1112 : (Jvm.Cond.instanceMethod ({ cls := "KeepForgetModel", name := "date", desc := "(II)I" } : Jvm.MethodName)) ∈ tb := tb_t 1112 (by decide +kernel) (by decide +kernel)
theorem tW_1113 : (Jvm.Cond.selects "KeepForgetModel" ({ cls := "KeepForgetModel", name := "date", desc := "(II)I" } : Jvm.MethodName) ({ cls := "KeepForgetModel", name := "date", desc := "(II)I" } : Jvm.MethodName)) ∈ tb := tb_t 1113 (by decide +kernel) (by decide +kernel)
theorem tW_1114 : (Jvm.Cond.code ({ cls := "KeepForgetModel", name := "date", desc := "(II)I" } : Jvm.MethodName) prog_12_method_13_code (5 : Nat) (Option.some Jvm.ClassFile.FieldType.int)) ∈ tb := tb_t 1114 (by decide +kernel) (by decide +kernel)
theorem tW_1115 : (Jvm.Cond.methodLink "KeepForgetModel" (155 : Nat) ({ cls := "KeepForgetModel", name := "isDay", desc := "(I)Z" } : Jvm.MethodName)) ∈ tb := tb_t 1115 (by decide +kernel) (by decide +kernel)
theorem tW_1116 : (Jvm.Cond.static ({ cls := "KeepForgetModel", name := "isDay", desc := "(I)Z" } : Jvm.MethodName)) ∈ tb := tb_t 1116 (by decide +kernel) (by decide +kernel)
theorem tW_1117 : (Jvm.Cond.code ({ cls := "KeepForgetModel", name := "isDay", desc := "(I)Z" } : Jvm.MethodName) prog_12_method_9_code (1 : Nat) (Option.some Jvm.ClassFile.FieldType.boolean)) ∈ tb := tb_t 1117 (by decide +kernel) (by decide +kernel)
theorem tW_1118 : (Jvm.Cond.methodLink "KeepForgetModel" (145 : Nat) ({ cls := "KeepForgetModel", name := "yearOf", desc := "(I)I" } : Jvm.MethodName)) ∈ tb := tb_t 1118 (by decide +kernel) (by decide +kernel)
theorem tW_1119 : (Jvm.Cond.static ({ cls := "KeepForgetModel", name := "yearOf", desc := "(I)I" } : Jvm.MethodName)) ∈ tb := tb_t 1119 (by decide +kernel) (by decide +kernel)
theorem tW_1120 : (Jvm.Cond.code ({ cls := "KeepForgetModel", name := "yearOf", desc := "(I)I" } : Jvm.MethodName) prog_12_method_10_code (2 : Nat) (Option.some Jvm.ClassFile.FieldType.int)) ∈ tb := tb_t 1120 (by decide +kernel) (by decide +kernel)
theorem tW_1121 : (Jvm.Cond.methodLink "KeepForgetModel" (158 : Nat) ({ cls := "KeepForgetModel", name := "monthOf", desc := "(I)I" } : Jvm.MethodName)) ∈ tb := tb_t 1121 (by decide +kernel) (by decide +kernel)
theorem tW_1122 : (Jvm.Cond.static ({ cls := "KeepForgetModel", name := "monthOf", desc := "(I)I" } : Jvm.MethodName)) ∈ tb := tb_t 1122 (by decide +kernel) (by decide +kernel)
theorem tW_1123 : (Jvm.Cond.code ({ cls := "KeepForgetModel", name := "monthOf", desc := "(I)I" } : Jvm.MethodName) prog_12_method_11_code (3 : Nat) (Option.some Jvm.ClassFile.FieldType.int)) ∈ tb := tb_t 1123 (by decide +kernel) (by decide +kernel)
theorem tW_1124 : (Jvm.Cond.methodLink "KeepForgetLaw" (107 : Nat) ({ cls := "KeepForgetModel", name := "later", desc := "(II)I" } : Jvm.MethodName)) ∈ tb := tb_t 1124 (by decide +kernel) (by decide +kernel)
theorem tW_1125 : (Jvm.Cond.instanceMethod ({ cls := "KeepForgetModel", name := "later", desc := "(II)I" } : Jvm.MethodName)) ∈ tb := tb_t 1125 (by decide +kernel) (by decide +kernel)
theorem tW_1126 : (Jvm.Cond.selects "KeepForgetModel" ({ cls := "KeepForgetModel", name := "later", desc := "(II)I" } : Jvm.MethodName) ({ cls := "KeepForgetModel", name := "later", desc := "(II)I" } : Jvm.MethodName)) ∈ tb := tb_t 1126 (by decide +kernel) (by decide +kernel)
theorem tW_1127 : (Jvm.Cond.code ({ cls := "KeepForgetModel", name := "later", desc := "(II)I" } : Jvm.MethodName) prog_12_method_15_code (3 : Nat) (Option.some Jvm.ClassFile.FieldType.int)) ∈ tb := tb_t 1127 (by decide +kernel) (by decide +kernel)
theorem tW_1128 : (Jvm.Cond.constant "KeepForgetModel" (167 : Nat) (119988 : Int32)) ∈ tb := tb_t 1128 (by decide +kernel) (by decide +kernel)
theorem tW_1129 : (Jvm.Cond.methodLink "KeepForgetModel" (168 : Nat) ({ cls := "KeepForgetModel", name := "behind", desc := "(II)I" } : Jvm.MethodName)) ∈ tb := tb_t 1129 (by decide +kernel) (by decide +kernel)
theorem tW_1130 : (Jvm.Cond.static ({ cls := "KeepForgetModel", name := "behind", desc := "(II)I" } : Jvm.MethodName)) ∈ tb := tb_t 1130 (by decide +kernel) (by decide +kernel)
theorem tW_1131 : (Jvm.Cond.code ({ cls := "KeepForgetModel", name := "behind", desc := "(II)I" } : Jvm.MethodName) prog_12_method_14_code (9 : Nat) (Option.some Jvm.ClassFile.FieldType.int)) ∈ tb := tb_t 1131 (by decide +kernel) (by decide +kernel)
theorem tW_1132 : (Jvm.Cond.constant "KeepForgetModel" (161 : Nat) (999999 : Int32)) ∈ tb := tb_t 1132 (by decide +kernel) (by decide +kernel)
theorem tW_1133 : (Jvm.Cond.methodLink "KeepForgetModel" (162 : Nat) ({ cls := "java/lang/Math", name := "min", desc := "(II)I" } : Jvm.MethodName)) ∈ tb := tb_t 1133 (by decide +kernel) (by decide +kernel)
theorem tW_1134 : (Jvm.Cond.methodLink "KeepForgetLaw" (112 : Nat) ({ cls := "KeepForgetModel", name := "feed", desc := "(IIIII)I" } : Jvm.MethodName)) ∈ tb := tb_t 1134 (by decide +kernel) (by decide +kernel)
theorem tW_1135 : (Jvm.Cond.instanceMethod ({ cls := "KeepForgetModel", name := "feed", desc := "(IIIII)I" } : Jvm.MethodName)) ∈ tb := tb_t 1135 (by decide +kernel) (by decide +kernel)
theorem tW_1136 : (Jvm.Cond.selects "KeepForgetModel" ({ cls := "KeepForgetModel", name := "feed", desc := "(IIIII)I" } : Jvm.MethodName) ({ cls := "KeepForgetModel", name := "feed", desc := "(IIIII)I" } : Jvm.MethodName)) ∈ tb := tb_t 1136 (by decide +kernel) (by decide +kernel)
theorem tW_1137 : (Jvm.Cond.code ({ cls := "KeepForgetModel", name := "feed", desc := "(IIIII)I" } : Jvm.MethodName) prog_12_method_16_code (8 : Nat) (Option.some Jvm.ClassFile.FieldType.int)) ∈ tb := tb_t 1137 (by decide +kernel) (by decide +kernel)
theorem tW_1138 : (Jvm.Cond.methodLink "KeepForgetLaw" (115 : Nat) ({ cls := "KeepForgetModel", name := "rules", desc := "(II)I" } : Jvm.MethodName)) ∈ tb := tb_t 1138 (by decide +kernel) (by decide +kernel)
theorem tW_1139 : (Jvm.Cond.instanceMethod ({ cls := "KeepForgetModel", name := "rules", desc := "(II)I" } : Jvm.MethodName)) ∈ tb := tb_t 1139 (by decide +kernel) (by decide +kernel)
theorem tW_1140 : (Jvm.Cond.selects "KeepForgetModel" ({ cls := "KeepForgetModel", name := "rules", desc := "(II)I" } : Jvm.MethodName) ({ cls := "KeepForgetModel", name := "rules", desc := "(II)I" } : Jvm.MethodName)) ∈ tb := tb_t 1140 (by decide +kernel) (by decide +kernel)
theorem tW_1141 : (Jvm.Cond.code ({ cls := "KeepForgetModel", name := "rules", desc := "(II)I" } : Jvm.MethodName) prog_12_method_30_code (4 : Nat) (Option.some Jvm.ClassFile.FieldType.int)) ∈ tb := tb_t 1141 (by decide +kernel) (by decide +kernel)
theorem tW_1142 : (Jvm.Cond.methodLink "KeepForgetModel" (221 : Nat) ({ cls := "KeepForgetModel", name := "step", desc := "()V" } : Jvm.MethodName)) ∈ tb := tb_t 1142 (by decide +kernel) (by decide +kernel)
theorem tW_1144 : (Jvm.Cond.instanceMethod ({ cls := "KeepForgetModel", name := "step", desc := "()V" } : Jvm.MethodName)) ∈ tb := tb_t 1144 (by decide +kernel) (by decide +kernel)
theorem tW_1145 : (Jvm.Cond.code ({ cls := "KeepForgetModel", name := "step", desc := "()V" } : Jvm.MethodName) prog_12_method_20_code (2 : Nat) (Option.none : Option Jvm.ClassFile.FieldType)) ∈ tb := tb_t 1145 (by decide +kernel) (by decide +kernel)
theorem tW_1146 : (Jvm.Cond.methodLink "KeepForgetModel" (180 : Nat) ({ cls := "KeepForgetModel", name := "byteAt", desc := "(I)I" } : Jvm.MethodName)) ∈ tb := tb_t 1146 (by decide +kernel) (by decide +kernel)
theorem tW_1148 : (Jvm.Cond.instanceMethod ({ cls := "KeepForgetModel", name := "byteAt", desc := "(I)I" } : Jvm.MethodName)) ∈ tb := tb_t 1148 (by decide +kernel) (by decide +kernel)
theorem tW_1149 : (Jvm.Cond.code ({ cls := "KeepForgetModel", name := "byteAt", desc := "(I)I" } : Jvm.MethodName) prog_12_method_17_code (2 : Nat) (Option.some Jvm.ClassFile.FieldType.int)) ∈ tb := tb_t 1149 (by decide +kernel) (by decide +kernel)
theorem tW_1150 : (Jvm.Cond.methodLink "KeepForgetModel" (192 : Nat) ({ cls := "KeepForgetModel", name := "isLetter", desc := "(I)Z" } : Jvm.MethodName)) ∈ tb := tb_t 1150 (by decide +kernel) (by decide +kernel)
theorem tW_1151 : (Jvm.Cond.static ({ cls := "KeepForgetModel", name := "isLetter", desc := "(I)Z" } : Jvm.MethodName)) ∈ tb := tb_t 1151 (by decide +kernel) (by decide +kernel)
theorem tW_1152 : (Jvm.Cond.code ({ cls := "KeepForgetModel", name := "isLetter", desc := "(I)Z" } : Jvm.MethodName) prog_12_method_18_code (1 : Nat) (Option.some Jvm.ClassFile.FieldType.boolean)) ∈ tb := tb_t 1152 (by decide +kernel) (by decide +kernel)
theorem tW_1153 : (Jvm.Cond.methodLink "KeepForgetModel" (195 : Nat) ({ cls := "KeepForgetModel", name := "isDigit", desc := "(I)Z" } : Jvm.MethodName)) ∈ tb := tb_t 1153 (by decide +kernel) (by decide +kernel)
theorem tW_1154 : (Jvm.Cond.static ({ cls := "KeepForgetModel", name := "isDigit", desc := "(I)Z" } : Jvm.MethodName)) ∈ tb := tb_t 1154 (by decide +kernel) (by decide +kernel)
theorem tW_1155 : (Jvm.Cond.code ({ cls := "KeepForgetModel", name := "isDigit", desc := "(I)Z" } : Jvm.MethodName) prog_12_method_19_code (1 : Nat) (Option.some Jvm.ClassFile.FieldType.boolean)) ∈ tb := tb_t 1155 (by decide +kernel) (by decide +kernel)
theorem tW_1157 : (Jvm.Cond.methodLink "KeepForgetModel" (217 : Nat) ({ cls := "KeepForgetModel", name := "isWord", desc := "(Ljava/lang/String;)Z" } : Jvm.MethodName)) ∈ tb := tb_t 1157 (by decide +kernel) (by decide +kernel)
theorem tW_1159 : (Jvm.Cond.instanceMethod ({ cls := "KeepForgetModel", name := "isWord", desc := "(Ljava/lang/String;)Z" } : Jvm.MethodName)) ∈ tb := tb_t 1159 (by decide +kernel) (by decide +kernel)
theorem tW_1160 : (Jvm.Cond.code ({ cls := "KeepForgetModel", name := "isWord", desc := "(Ljava/lang/String;)Z" } : Jvm.MethodName) prog_12_method_22_code (4 : Nat) (Option.some Jvm.ClassFile.FieldType.boolean)) ∈ tb := tb_t 1160 (by decide +kernel) (by decide +kernel)
theorem tW_1161 : (Jvm.Cond.methodLink "KeepForgetModel" (207 : Nat) ({ cls := "java/lang/String", name := "length", desc := "()I" } : Jvm.MethodName)) ∈ tb := tb_t 1161 (by decide +kernel) (by decide +kernel)
theorem tW_1162 : (Jvm.Cond.methodLink "KeepForgetModel" (213 : Nat) ({ cls := "java/lang/String", name := "charAt", desc := "(I)C" } : Jvm.MethodName)) ∈ tb := tb_t 1162 (by decide +kernel) (by decide +kernel)
theorem tW_1165 : (Jvm.Cond.methodLink "KeepForgetModel" (224 : Nat) ({ cls := "KeepForgetModel", name := "wrong", desc := "(I)V" } : Jvm.MethodName)) ∈ tb := tb_t 1165 (by decide +kernel) (by decide +kernel)
theorem tW_1167 : (Jvm.Cond.instanceMethod ({ cls := "KeepForgetModel", name := "wrong", desc := "(I)V" } : Jvm.MethodName)) ∈ tb := tb_t 1167 (by decide +kernel) (by decide +kernel)
theorem tW_1168 : (Jvm.Cond.code ({ cls := "KeepForgetModel", name := "wrong", desc := "(I)V" } : Jvm.MethodName) prog_12_method_21_code (2 : Nat) (Option.none : Option Jvm.ClassFile.FieldType)) ∈ tb := tb_t 1168 (by decide +kernel) (by decide +kernel)
theorem tW_1169 : (Jvm.Cond.methodLink "KeepForgetModel" (275 : Nat) ({ cls := "KeepForgetModel", name := "readRule", desc := "()V" } : Jvm.MethodName)) ∈ tb := tb_t 1169 (by decide +kernel) (by decide +kernel)
theorem tW_1171 : (Jvm.Cond.instanceMethod ({ cls := "KeepForgetModel", name := "readRule", desc := "()V" } : Jvm.MethodName)) ∈ tb := tb_t 1171 (by decide +kernel) (by decide +kernel)
theorem tW_1172 : (Jvm.Cond.code ({ cls := "KeepForgetModel", name := "readRule", desc := "()V" } : Jvm.MethodName) prog_12_method_29_code (4 : Nat) (Option.none : Option Jvm.ClassFile.FieldType)) ∈ tb := tb_t 1172 (by decide +kernel) (by decide +kernel)
theorem tW_1173 : (Jvm.Cond.methodLink "KeepForgetModel" (252 : Nat) ({ cls := "KeepForgetModel", name := "readWhat", desc := "()V" } : Jvm.MethodName)) ∈ tb := tb_t 1173 (by decide +kernel) (by decide +kernel)
theorem tW_1175 : (Jvm.Cond.instanceMethod ({ cls := "KeepForgetModel", name := "readWhat", desc := "()V" } : Jvm.MethodName)) ∈ tb := tb_t 1175 (by decide +kernel) (by decide +kernel)
theorem tW_1176 : (Jvm.Cond.code ({ cls := "KeepForgetModel", name := "readWhat", desc := "()V" } : Jvm.MethodName) prog_12_method_27_code (1 : Nat) (Option.none : Option Jvm.ClassFile.FieldType)) ∈ tb := tb_t 1176 (by decide +kernel) (by decide +kernel)
theorem tW_1178 : (Jvm.Cond.methodLink "KeepForgetModel" (236 : Nat) ({ cls := "KeepForgetModel", name := "readNumbered", desc := "(II)I" } : Jvm.MethodName)) ∈ tb := tb_t 1178 (by decide +kernel) (by decide +kernel)
theorem tW_1180 : (Jvm.Cond.instanceMethod ({ cls := "KeepForgetModel", name := "readNumbered", desc := "(II)I" } : Jvm.MethodName)) ∈ tb := tb_t 1180 (by decide +kernel) (by decide +kernel)
theorem tW_1181 : (Jvm.Cond.code ({ cls := "KeepForgetModel", name := "readNumbered", desc := "(II)I" } : Jvm.MethodName) prog_12_method_25_code (4 : Nat) (Option.some Jvm.ClassFile.FieldType.int)) ∈ tb := tb_t 1181 (by decide +kernel) (by decide +kernel)
theorem tW_1182 : (Jvm.Cond.methodLink "KeepForgetModel" (228 : Nat) ({ cls := "KeepForgetModel", name := "numbered", desc := "(II)I" } : Jvm.MethodName)) ∈ tb := tb_t 1182 (by decide +kernel) (by decide +kernel)
theorem tW_1184 : (Jvm.Cond.instanceMethod ({ cls := "KeepForgetModel", name := "numbered", desc := "(II)I" } : Jvm.MethodName)) ∈ tb := tb_t 1184 (by decide +kernel) (by decide +kernel)
theorem tW_1185 : (Jvm.Cond.code ({ cls := "KeepForgetModel", name := "numbered", desc := "(II)I" } : Jvm.MethodName) prog_12_method_23_code (4 : Nat) (Option.some Jvm.ClassFile.FieldType.int)) ∈ tb := tb_t 1185 (by decide +kernel) (by decide +kernel)
theorem tW_1187 : (Jvm.Cond.methodLink "KeepForgetModel" (243 : Nat) ({ cls := "KeepForgetModel", name := "readNumber", desc := "()I" } : Jvm.MethodName)) ∈ tb := tb_t 1187 (by decide +kernel) (by decide +kernel)
theorem tW_1189 : (Jvm.Cond.instanceMethod ({ cls := "KeepForgetModel", name := "readNumber", desc := "()I" } : Jvm.MethodName)) ∈ tb := tb_t 1189 (by decide +kernel) (by decide +kernel)
theorem tW_1190 : (Jvm.Cond.code ({ cls := "KeepForgetModel", name := "readNumber", desc := "()I" } : Jvm.MethodName) prog_12_method_26_code (3 : Nat) (Option.some Jvm.ClassFile.FieldType.int)) ∈ tb := tb_t 1190 (by decide +kernel) (by decide +kernel)
theorem tW_1195 : (Jvm.Cond.methodLink "KeepForgetModel" (262 : Nat) ({ cls := "KeepForgetModel", name := "word", desc := "(Ljava/lang/String;)V" } : Jvm.MethodName)) ∈ tb := tb_t 1195 (by decide +kernel) (by decide +kernel)
theorem tW_1197 : (Jvm.Cond.instanceMethod ({ cls := "KeepForgetModel", name := "word", desc := "(Ljava/lang/String;)V" } : Jvm.MethodName)) ∈ tb := tb_t 1197 (by decide +kernel) (by decide +kernel)
theorem tW_1198 : (Jvm.Cond.code ({ cls := "KeepForgetModel", name := "word", desc := "(Ljava/lang/String;)V" } : Jvm.MethodName) prog_12_method_24_code (2 : Nat) (Option.none : Option Jvm.ClassFile.FieldType)) ∈ tb := tb_t 1198 (by decide +kernel) (by decide +kernel)
theorem tW_1199 : (Jvm.Cond.methodLink "KeepForgetModel" (266 : Nat) ({ cls := "KeepForgetModel", name := "readTests", desc := "()V" } : Jvm.MethodName)) ∈ tb := tb_t 1199 (by decide +kernel) (by decide +kernel)
theorem tW_1201 : (Jvm.Cond.instanceMethod ({ cls := "KeepForgetModel", name := "readTests", desc := "()V" } : Jvm.MethodName)) ∈ tb := tb_t 1201 (by decide +kernel) (by decide +kernel)
theorem tW_1202 : (Jvm.Cond.code ({ cls := "KeepForgetModel", name := "readTests", desc := "()V" } : Jvm.MethodName) prog_12_method_28_code (5 : Nat) (Option.none : Option Jvm.ClassFile.FieldType)) ∈ tb := tb_t 1202 (by decide +kernel) (by decide +kernel)
theorem tW_1206 : (Jvm.Cond.methodLink "KeepForgetLaw" (119 : Nat) ({ cls := "KeepForgetModel", name := "fault", desc := "()I" } : Jvm.MethodName)) ∈ tb := tb_t 1206 (by decide +kernel) (by decide +kernel)
theorem tW_1207 : (Jvm.Cond.instanceMethod ({ cls := "KeepForgetModel", name := "fault", desc := "()I" } : Jvm.MethodName)) ∈ tb := tb_t 1207 (by decide +kernel) (by decide +kernel)
theorem tW_1208 : (Jvm.Cond.selects "KeepForgetModel" ({ cls := "KeepForgetModel", name := "fault", desc := "()I" } : Jvm.MethodName) ({ cls := "KeepForgetModel", name := "fault", desc := "()I" } : Jvm.MethodName)) ∈ tb := tb_t 1208 (by decide +kernel) (by decide +kernel)
theorem tW_1209 : (Jvm.Cond.code ({ cls := "KeepForgetModel", name := "fault", desc := "()I" } : Jvm.MethodName) prog_12_method_31_code (1 : Nat) (Option.some Jvm.ClassFile.FieldType.int)) ∈ tb := tb_t 1209 (by decide +kernel) (by decide +kernel)
theorem tW_1210 : (Jvm.Cond.methodLink "KeepForgetLaw" (123 : Nat) ({ cls := "KeepForgetModel", name := "thing", desc := "(I)I" } : Jvm.MethodName)) ∈ tb := tb_t 1210 (by decide +kernel) (by decide +kernel)
theorem tW_1211 : (Jvm.Cond.instanceMethod ({ cls := "KeepForgetModel", name := "thing", desc := "(I)I" } : Jvm.MethodName)) ∈ tb := tb_t 1211 (by decide +kernel) (by decide +kernel)
theorem tW_1212 : (Jvm.Cond.selects "KeepForgetModel" ({ cls := "KeepForgetModel", name := "thing", desc := "(I)I" } : Jvm.MethodName) ({ cls := "KeepForgetModel", name := "thing", desc := "(I)I" } : Jvm.MethodName)) ∈ tb := tb_t 1212 (by decide +kernel) (by decide +kernel)
theorem tW_1213 : (Jvm.Cond.code ({ cls := "KeepForgetModel", name := "thing", desc := "(I)I" } : Jvm.MethodName) prog_12_method_35_code (2 : Nat) (Option.some Jvm.ClassFile.FieldType.int)) ∈ tb := tb_t 1213 (by decide +kernel) (by decide +kernel)
theorem tW_1214 : (Jvm.Cond.methodLink "KeepForgetLaw" (126 : Nat) ({ cls := "KeepForgetModel", name := "fact", desc := "(III)I" } : Jvm.MethodName)) ∈ tb := tb_t 1214 (by decide +kernel) (by decide +kernel)
theorem tW_1215 : (Jvm.Cond.instanceMethod ({ cls := "KeepForgetModel", name := "fact", desc := "(III)I" } : Jvm.MethodName)) ∈ tb := tb_t 1215 (by decide +kernel) (by decide +kernel)
theorem tW_1216 : (Jvm.Cond.selects "KeepForgetModel" ({ cls := "KeepForgetModel", name := "fact", desc := "(III)I" } : Jvm.MethodName) ({ cls := "KeepForgetModel", name := "fact", desc := "(III)I" } : Jvm.MethodName)) ∈ tb := tb_t 1216 (by decide +kernel) (by decide +kernel)
theorem tW_1217 : (Jvm.Cond.code ({ cls := "KeepForgetModel", name := "fact", desc := "(III)I" } : Jvm.MethodName) prog_12_method_36_code (5 : Nat) (Option.some Jvm.ClassFile.FieldType.int)) ∈ tb := tb_t 1217 (by decide +kernel) (by decide +kernel)
theorem tW_1218 : (Jvm.Cond.methodLink "KeepForgetModel" (281 : Nat) ({ cls := "KeepForgetModel", name := "isThing", desc := "(I)Z" } : Jvm.MethodName)) ∈ tb := tb_t 1218 (by decide +kernel) (by decide +kernel)
theorem tW_1220 : (Jvm.Cond.instanceMethod ({ cls := "KeepForgetModel", name := "isThing", desc := "(I)Z" } : Jvm.MethodName)) ∈ tb := tb_t 1220 (by decide +kernel) (by decide +kernel)
theorem tW_1221 : (Jvm.Cond.code ({ cls := "KeepForgetModel", name := "isThing", desc := "(I)Z" } : Jvm.MethodName) prog_12_method_32_code (2 : Nat) (Option.some Jvm.ClassFile.FieldType.boolean)) ∈ tb := tb_t 1221 (by decide +kernel) (by decide +kernel)
theorem tW_1222 : (Jvm.Cond.methodLink "KeepForgetLaw" (129 : Nat) ({ cls := "KeepForgetModel", name := "event", desc := "(III)I" } : Jvm.MethodName)) ∈ tb := tb_t 1222 (by decide +kernel) (by decide +kernel)
theorem tW_1223 : (Jvm.Cond.instanceMethod ({ cls := "KeepForgetModel", name := "event", desc := "(III)I" } : Jvm.MethodName)) ∈ tb := tb_t 1223 (by decide +kernel) (by decide +kernel)
theorem tW_1224 : (Jvm.Cond.selects "KeepForgetModel" ({ cls := "KeepForgetModel", name := "event", desc := "(III)I" } : Jvm.MethodName) ({ cls := "KeepForgetModel", name := "event", desc := "(III)I" } : Jvm.MethodName)) ∈ tb := tb_t 1224 (by decide +kernel) (by decide +kernel)
theorem tW_1225 : (Jvm.Cond.code ({ cls := "KeepForgetModel", name := "event", desc := "(III)I" } : Jvm.MethodName) prog_12_method_37_code (5 : Nat) (Option.some Jvm.ClassFile.FieldType.int)) ∈ tb := tb_t 1225 (by decide +kernel) (by decide +kernel)
theorem tW_1226 : (Jvm.Cond.methodLink "KeepForgetLaw" (132 : Nat) ({ cls := "KeepForgetModel", name := "copy", desc := "(III)Z" } : Jvm.MethodName)) ∈ tb := tb_t 1226 (by decide +kernel) (by decide +kernel)
theorem tW_1227 : (Jvm.Cond.instanceMethod ({ cls := "KeepForgetModel", name := "copy", desc := "(III)Z" } : Jvm.MethodName)) ∈ tb := tb_t 1227 (by decide +kernel) (by decide +kernel)
theorem tW_1228 : (Jvm.Cond.selects "KeepForgetModel" ({ cls := "KeepForgetModel", name := "copy", desc := "(III)Z" } : Jvm.MethodName) ({ cls := "KeepForgetModel", name := "copy", desc := "(III)Z" } : Jvm.MethodName)) ∈ tb := tb_t 1228 (by decide +kernel) (by decide +kernel)
theorem tW_1229 : (Jvm.Cond.code ({ cls := "KeepForgetModel", name := "copy", desc := "(III)Z" } : Jvm.MethodName) prog_12_method_47_code (5 : Nat) (Option.some Jvm.ClassFile.FieldType.boolean)) ∈ tb := tb_t 1229 (by decide +kernel) (by decide +kernel)
theorem tW_1230 : (Jvm.Cond.methodLink "KeepForgetModel" (330 : Nat) ({ cls := "KeepForgetModel", name := "isField", desc := "(I)Z" } : Jvm.MethodName)) ∈ tb := tb_t 1230 (by decide +kernel) (by decide +kernel)
theorem tW_1231 : (Jvm.Cond.static ({ cls := "KeepForgetModel", name := "isField", desc := "(I)Z" } : Jvm.MethodName)) ∈ tb := tb_t 1231 (by decide +kernel) (by decide +kernel)
theorem tW_1232 : (Jvm.Cond.code ({ cls := "KeepForgetModel", name := "isField", desc := "(I)Z" } : Jvm.MethodName) prog_12_method_33_code (1 : Nat) (Option.some Jvm.ClassFile.FieldType.boolean)) ∈ tb := tb_t 1232 (by decide +kernel) (by decide +kernel)
theorem tW_1233 : (Jvm.Cond.methodLink "KeepForgetModel" (333 : Nat) ({ cls := "KeepForgetModel", name := "isStore", desc := "(I)Z" } : Jvm.MethodName)) ∈ tb := tb_t 1233 (by decide +kernel) (by decide +kernel)
theorem tW_1234 : (Jvm.Cond.static ({ cls := "KeepForgetModel", name := "isStore", desc := "(I)Z" } : Jvm.MethodName)) ∈ tb := tb_t 1234 (by decide +kernel) (by decide +kernel)
theorem tW_1235 : (Jvm.Cond.code ({ cls := "KeepForgetModel", name := "isStore", desc := "(I)Z" } : Jvm.MethodName) prog_12_method_34_code (1 : Nat) (Option.some Jvm.ClassFile.FieldType.boolean)) ∈ tb := tb_t 1235 (by decide +kernel) (by decide +kernel)
theorem tW_1236 : (Jvm.Cond.methodLink "KeepForgetModel" (336 : Nat) ({ cls := "KeepForgetModel", name := "placesOf", desc := "(II)I" } : Jvm.MethodName)) ∈ tb := tb_t 1236 (by decide +kernel) (by decide +kernel)
theorem tW_1238 : (Jvm.Cond.instanceMethod ({ cls := "KeepForgetModel", name := "placesOf", desc := "(II)I" } : Jvm.MethodName)) ∈ tb := tb_t 1238 (by decide +kernel) (by decide +kernel)
theorem tW_1239 : (Jvm.Cond.code ({ cls := "KeepForgetModel", name := "placesOf", desc := "(II)I" } : Jvm.MethodName) prog_12_method_46_code (6 : Nat) (Option.some Jvm.ClassFile.FieldType.int)) ∈ tb := tb_t 1239 (by decide +kernel) (by decide +kernel)
theorem tW_1240 : (Jvm.Cond.methodLink "KeepForgetModel" (316 : Nat) ({ cls := "KeepForgetModel", name := "force", desc := "(I)I" } : Jvm.MethodName)) ∈ tb := tb_t 1240 (by decide +kernel) (by decide +kernel)
theorem tW_1242 : (Jvm.Cond.instanceMethod ({ cls := "KeepForgetModel", name := "force", desc := "(I)I" } : Jvm.MethodName)) ∈ tb := tb_t 1242 (by decide +kernel) (by decide +kernel)
theorem tW_1243 : (Jvm.Cond.code ({ cls := "KeepForgetModel", name := "force", desc := "(I)I" } : Jvm.MethodName) prog_12_method_38_code (4 : Nat) (Option.some Jvm.ClassFile.FieldType.int)) ∈ tb := tb_t 1243 (by decide +kernel) (by decide +kernel)
theorem tW_1244 : (Jvm.Cond.methodLink "KeepForgetModel" (305 : Nat) ({ cls := "KeepForgetModel", name := "isFor", desc := "(III)Z" } : Jvm.MethodName)) ∈ tb := tb_t 1244 (by decide +kernel) (by decide +kernel)
theorem tW_1246 : (Jvm.Cond.instanceMethod ({ cls := "KeepForgetModel", name := "isFor", desc := "(III)Z" } : Jvm.MethodName)) ∈ tb := tb_t 1246 (by decide +kernel) (by decide +kernel)
theorem tW_1247 : (Jvm.Cond.code ({ cls := "KeepForgetModel", name := "isFor", desc := "(III)Z" } : Jvm.MethodName) prog_12_method_39_code (8 : Nat) (Option.some Jvm.ClassFile.FieldType.boolean)) ∈ tb := tb_t 1247 (by decide +kernel) (by decide +kernel)
theorem tW_1248 : (Jvm.Cond.methodLink "KeepForgetLaw" (135 : Nat) ({ cls := "KeepForgetModel", name := "copies", desc := "(II)I" } : Jvm.MethodName)) ∈ tb := tb_t 1248 (by decide +kernel) (by decide +kernel)
theorem tW_1249 : (Jvm.Cond.instanceMethod ({ cls := "KeepForgetModel", name := "copies", desc := "(II)I" } : Jvm.MethodName)) ∈ tb := tb_t 1249 (by decide +kernel) (by decide +kernel)
theorem tW_1250 : (Jvm.Cond.selects "KeepForgetModel" ({ cls := "KeepForgetModel", name := "copies", desc := "(II)I" } : Jvm.MethodName) ({ cls := "KeepForgetModel", name := "copies", desc := "(II)I" } : Jvm.MethodName)) ∈ tb := tb_t 1250 (by decide +kernel) (by decide +kernel)
theorem tW_1251 : (Jvm.Cond.code ({ cls := "KeepForgetModel", name := "copies", desc := "(II)I" } : Jvm.MethodName) prog_12_method_48_code (3 : Nat) (Option.some Jvm.ClassFile.FieldType.int)) ∈ tb := tb_t 1251 (by decide +kernel) (by decide +kernel)
theorem tW_1252 : (Jvm.Cond.methodLink "KeepForgetLaw" (139 : Nat) ({ cls := "KeepForgetModel", name := "store", desc := "(III)V" } : Jvm.MethodName)) ∈ tb := tb_t 1252 (by decide +kernel) (by decide +kernel)
theorem tW_1253 : (Jvm.Cond.instanceMethod ({ cls := "KeepForgetModel", name := "store", desc := "(III)V" } : Jvm.MethodName)) ∈ tb := tb_t 1253 (by decide +kernel) (by decide +kernel)
theorem tW_1254 : (Jvm.Cond.selects "KeepForgetModel" ({ cls := "KeepForgetModel", name := "store", desc := "(III)V" } : Jvm.MethodName) ({ cls := "KeepForgetModel", name := "store", desc := "(III)V" } : Jvm.MethodName)) ∈ tb := tb_t 1254 (by decide +kernel) (by decide +kernel)
theorem tW_1255 : (Jvm.Cond.code ({ cls := "KeepForgetModel", name := "store", desc := "(III)V" } : Jvm.MethodName) prog_12_method_49_code (4 : Nat) (Option.none : Option Jvm.ClassFile.FieldType)) ∈ tb := tb_t 1255 (by decide +kernel) (by decide +kernel)
theorem tW_1256 : (Jvm.Cond.methodLink "KeepForgetLaw" (142 : Nat) ({ cls := "KeepForgetModel", name := "hold", desc := "(II)I" } : Jvm.MethodName)) ∈ tb := tb_t 1256 (by decide +kernel) (by decide +kernel)
theorem tW_1257 : (Jvm.Cond.instanceMethod ({ cls := "KeepForgetModel", name := "hold", desc := "(II)I" } : Jvm.MethodName)) ∈ tb := tb_t 1257 (by decide +kernel) (by decide +kernel)
theorem tW_1258 : (Jvm.Cond.selects "KeepForgetModel" ({ cls := "KeepForgetModel", name := "hold", desc := "(II)I" } : Jvm.MethodName) ({ cls := "KeepForgetModel", name := "hold", desc := "(II)I" } : Jvm.MethodName)) ∈ tb := tb_t 1258 (by decide +kernel) (by decide +kernel)
theorem tW_1259 : (Jvm.Cond.code ({ cls := "KeepForgetModel", name := "hold", desc := "(II)I" } : Jvm.MethodName) prog_12_method_50_code (3 : Nat) (Option.some Jvm.ClassFile.FieldType.int)) ∈ tb := tb_t 1259 (by decide +kernel) (by decide +kernel)
theorem tW_1260 : (Jvm.Cond.methodLink "KeepForgetLaw" (146 : Nat) ({ cls := "KeepForgetModel", name := "lift", desc := "(I)Z" } : Jvm.MethodName)) ∈ tb := tb_t 1260 (by decide +kernel) (by decide +kernel)
theorem tW_1261 : (Jvm.Cond.instanceMethod ({ cls := "KeepForgetModel", name := "lift", desc := "(I)Z" } : Jvm.MethodName)) ∈ tb := tb_t 1261 (by decide +kernel) (by decide +kernel)
theorem tW_1262 : (Jvm.Cond.selects "KeepForgetModel" ({ cls := "KeepForgetModel", name := "lift", desc := "(I)Z" } : Jvm.MethodName) ({ cls := "KeepForgetModel", name := "lift", desc := "(I)Z" } : Jvm.MethodName)) ∈ tb := tb_t 1262 (by decide +kernel) (by decide +kernel)
theorem tW_1263 : (Jvm.Cond.code ({ cls := "KeepForgetModel", name := "lift", desc := "(I)Z" } : Jvm.MethodName) prog_12_method_51_code (4 : Nat) (Option.some Jvm.ClassFile.FieldType.boolean)) ∈ tb := tb_t 1263 (by decide +kernel) (by decide +kernel)
theorem tW_1264 : (Jvm.Cond.methodLink "KeepForgetLaw" (149 : Nat) ({ cls := "KeepForgetModel", name := "wish", desc := "(I)I" } : Jvm.MethodName)) ∈ tb := tb_t 1264 (by decide +kernel) (by decide +kernel)
theorem tW_1265 : (Jvm.Cond.instanceMethod ({ cls := "KeepForgetModel", name := "wish", desc := "(I)I" } : Jvm.MethodName)) ∈ tb := tb_t 1265 (by decide +kernel) (by decide +kernel)
theorem tW_1266 : (Jvm.Cond.selects "KeepForgetModel" ({ cls := "KeepForgetModel", name := "wish", desc := "(I)I" } : Jvm.MethodName) ({ cls := "KeepForgetModel", name := "wish", desc := "(I)I" } : Jvm.MethodName)) ∈ tb := tb_t 1266 (by decide +kernel) (by decide +kernel)
theorem tW_1267 : (Jvm.Cond.code ({ cls := "KeepForgetModel", name := "wish", desc := "(I)I" } : Jvm.MethodName) prog_12_method_52_code (4 : Nat) (Option.some Jvm.ClassFile.FieldType.int)) ∈ tb := tb_t 1267 (by decide +kernel) (by decide +kernel)
theorem tW_1268 : (Jvm.Cond.methodLink "KeepForgetModel" (342 : Nat) ({ cls := "KeepForgetModel", name := "isDue", desc := "(III)Z" } : Jvm.MethodName)) ∈ tb := tb_t 1268 (by decide +kernel) (by decide +kernel)
theorem tW_1270 : (Jvm.Cond.instanceMethod ({ cls := "KeepForgetModel", name := "isDue", desc := "(III)Z" } : Jvm.MethodName)) ∈ tb := tb_t 1270 (by decide +kernel) (by decide +kernel)
theorem tW_1271 : (Jvm.Cond.code ({ cls := "KeepForgetModel", name := "isDue", desc := "(III)Z" } : Jvm.MethodName) prog_12_method_45_code (4 : Nat) (Option.some Jvm.ClassFile.FieldType.boolean)) ∈ tb := tb_t 1271 (by decide +kernel) (by decide +kernel)
theorem tW_1272 : (Jvm.Cond.methodLink "KeepForgetModel" (322 : Nat) ({ cls := "KeepForgetModel", name := "know", desc := "(II)V" } : Jvm.MethodName)) ∈ tb := tb_t 1272 (by decide +kernel) (by decide +kernel)
theorem tW_1274 : (Jvm.Cond.instanceMethod ({ cls := "KeepForgetModel", name := "know", desc := "(II)V" } : Jvm.MethodName)) ∈ tb := tb_t 1274 (by decide +kernel) (by decide +kernel)
theorem tW_1275 : (Jvm.Cond.code ({ cls := "KeepForgetModel", name := "know", desc := "(II)V" } : Jvm.MethodName) prog_12_method_44_code (5 : Nat) (Option.none : Option Jvm.ClassFile.FieldType)) ∈ tb := tb_t 1275 (by decide +kernel) (by decide +kernel)
theorem tW_1276 : (Jvm.Cond.methodLink "KeepForgetModel" (319 : Nat) ({ cls := "KeepForgetModel", name := "tell", desc := "(III)V" } : Jvm.MethodName)) ∈ tb := tb_t 1276 (by decide +kernel) (by decide +kernel)
theorem tW_1278 : (Jvm.Cond.instanceMethod ({ cls := "KeepForgetModel", name := "tell", desc := "(III)V" } : Jvm.MethodName)) ∈ tb := tb_t 1278 (by decide +kernel) (by decide +kernel)
theorem tW_1279 : (Jvm.Cond.code ({ cls := "KeepForgetModel", name := "tell", desc := "(III)V" } : Jvm.MethodName) prog_12_method_42_code (8 : Nat) (Option.none : Option Jvm.ClassFile.FieldType)) ∈ tb := tb_t 1279 (by decide +kernel) (by decide +kernel)
theorem tW_1280 : (Jvm.Cond.methodLink "KeepForgetModel" (293 : Nat) ({ cls := "java/lang/Math", name := "max", desc := "(II)I" } : Jvm.MethodName)) ∈ tb := tb_t 1280 (by decide +kernel) (by decide +kernel)
theorem tW_1281 : (Jvm.Cond.methodLink "KeepForgetModel" (309 : Nat) ({ cls := "KeepForgetModel", name := "bid", desc := "(III)V" } : Jvm.MethodName)) ∈ tb := tb_t 1281 (by decide +kernel) (by decide +kernel)
theorem tW_1283 : (Jvm.Cond.instanceMethod ({ cls := "KeepForgetModel", name := "bid", desc := "(III)V" } : Jvm.MethodName)) ∈ tb := tb_t 1283 (by decide +kernel) (by decide +kernel)
theorem tW_1284 : (Jvm.Cond.code ({ cls := "KeepForgetModel", name := "bid", desc := "(III)V" } : Jvm.MethodName) prog_12_method_41_code (8 : Nat) (Option.none : Option Jvm.ClassFile.FieldType)) ∈ tb := tb_t 1284 (by decide +kernel) (by decide +kernel)
theorem tW_1285 : (Jvm.Cond.methodLink "KeepForgetModel" (290 : Nat) ({ cls := "KeepForgetModel", name := "until", desc := "(II)I" } : Jvm.MethodName)) ∈ tb := tb_t 1285 (by decide +kernel) (by decide +kernel)
theorem tW_1287 : (Jvm.Cond.instanceMethod ({ cls := "KeepForgetModel", name := "until", desc := "(II)I" } : Jvm.MethodName)) ∈ tb := tb_t 1287 (by decide +kernel) (by decide +kernel)
theorem tW_1288 : (Jvm.Cond.code ({ cls := "KeepForgetModel", name := "until", desc := "(II)I" } : Jvm.MethodName) prog_12_method_40_code (4 : Nat) (Option.some Jvm.ClassFile.FieldType.int)) ∈ tb := tb_t 1288 (by decide +kernel) (by decide +kernel)
theorem tW_1289 : (Jvm.Cond.methodLink "KeepForgetModel" (326 : Nat) ({ cls := "KeepForgetModel", name := "isHeld", desc := "(II)Z" } : Jvm.MethodName)) ∈ tb := tb_t 1289 (by decide +kernel) (by decide +kernel)
theorem tW_1291 : (Jvm.Cond.instanceMethod ({ cls := "KeepForgetModel", name := "isHeld", desc := "(II)Z" } : Jvm.MethodName)) ∈ tb := tb_t 1291 (by decide +kernel) (by decide +kernel)
theorem tW_1292 : (Jvm.Cond.code ({ cls := "KeepForgetModel", name := "isHeld", desc := "(II)Z" } : Jvm.MethodName) prog_12_method_43_code (3 : Nat) (Option.some Jvm.ClassFile.FieldType.boolean)) ∈ tb := tb_t 1292 (by decide +kernel) (by decide +kernel)
theorem tW_1293 : (Jvm.Cond.methodLink "KeepForgetLaw" (153 : Nat) ({ cls := "KeepForgetModel", name := "span", desc := "(IIII)I" } : Jvm.MethodName)) ∈ tb := tb_t 1293 (by decide +kernel) (by decide +kernel)
theorem tW_1294 : (Jvm.Cond.instanceMethod ({ cls := "KeepForgetModel", name := "span", desc := "(IIII)I" } : Jvm.MethodName)) ∈ tb := tb_t 1294 (by decide +kernel) (by decide +kernel)
theorem tW_1295 : (Jvm.Cond.selects "KeepForgetModel" ({ cls := "KeepForgetModel", name := "span", desc := "(IIII)I" } : Jvm.MethodName) ({ cls := "KeepForgetModel", name := "span", desc := "(IIII)I" } : Jvm.MethodName)) ∈ tb := tb_t 1295 (by decide +kernel) (by decide +kernel)
theorem tW_1296 : (Jvm.Cond.code ({ cls := "KeepForgetModel", name := "span", desc := "(IIII)I" } : Jvm.MethodName) prog_12_method_54_code (5 : Nat) (Option.some Jvm.ClassFile.FieldType.int)) ∈ tb := tb_t 1296 (by decide +kernel) (by decide +kernel)
theorem tW_1297 : (Jvm.Cond.methodLink "KeepForgetModel" (345 : Nat) ({ cls := "KeepForgetModel", name := "isSet", desc := "(I)Z" } : Jvm.MethodName)) ∈ tb := tb_t 1297 (by decide +kernel) (by decide +kernel)
theorem tW_1299 : (Jvm.Cond.instanceMethod ({ cls := "KeepForgetModel", name := "isSet", desc := "(I)Z" } : Jvm.MethodName)) ∈ tb := tb_t 1299 (by decide +kernel) (by decide +kernel)
theorem tW_1300 : (Jvm.Cond.code ({ cls := "KeepForgetModel", name := "isSet", desc := "(I)Z" } : Jvm.MethodName) prog_12_method_53_code (2 : Nat) (Option.some Jvm.ClassFile.FieldType.boolean)) ∈ tb := tb_t 1300 (by decide +kernel) (by decide +kernel)
theorem tW_1301 : (Jvm.Cond.methodLink "KeepForgetLaw" (156 : Nat) ({ cls := "KeepForgetModel", name := "lost", desc := "(IIII)I" } : Jvm.MethodName)) ∈ tb := tb_t 1301 (by decide +kernel) (by decide +kernel)
theorem tW_1302 : (Jvm.Cond.instanceMethod ({ cls := "KeepForgetModel", name := "lost", desc := "(IIII)I" } : Jvm.MethodName)) ∈ tb := tb_t 1302 (by decide +kernel) (by decide +kernel)
theorem tW_1303 : (Jvm.Cond.selects "KeepForgetModel" ({ cls := "KeepForgetModel", name := "lost", desc := "(IIII)I" } : Jvm.MethodName) ({ cls := "KeepForgetModel", name := "lost", desc := "(IIII)I" } : Jvm.MethodName)) ∈ tb := tb_t 1303 (by decide +kernel) (by decide +kernel)
theorem tW_1304 : (Jvm.Cond.code ({ cls := "KeepForgetModel", name := "lost", desc := "(IIII)I" } : Jvm.MethodName) prog_12_method_55_code (5 : Nat) (Option.some Jvm.ClassFile.FieldType.int)) ∈ tb := tb_t 1304 (by decide +kernel) (by decide +kernel)
theorem tW_1305 : (Jvm.Cond.methodLink "KeepForgetLaw" (159 : Nat) ({ cls := "KeepForgetModel", name := "why", desc := "(II)I" } : Jvm.MethodName)) ∈ tb := tb_t 1305 (by decide +kernel) (by decide +kernel)
theorem tW_1306 : (Jvm.Cond.instanceMethod ({ cls := "KeepForgetModel", name := "why", desc := "(II)I" } : Jvm.MethodName)) ∈ tb := tb_t 1306 (by decide +kernel) (by decide +kernel)
theorem tW_1307 : (Jvm.Cond.selects "KeepForgetModel" ({ cls := "KeepForgetModel", name := "why", desc := "(II)I" } : Jvm.MethodName) ({ cls := "KeepForgetModel", name := "why", desc := "(II)I" } : Jvm.MethodName)) ∈ tb := tb_t 1307 (by decide +kernel) (by decide +kernel)
theorem tW_1308 : (Jvm.Cond.code ({ cls := "KeepForgetModel", name := "why", desc := "(II)I" } : Jvm.MethodName) prog_12_method_56_code (3 : Nat) (Option.some Jvm.ClassFile.FieldType.int)) ∈ tb := tb_t 1308 (by decide +kernel) (by decide +kernel)
theorem tW_1309 : (Jvm.Cond.methodLink "KeepForgetLaw" (162 : Nat) ({ cls := "KeepForgetModel", name := "places", desc := "(II)I" } : Jvm.MethodName)) ∈ tb := tb_t 1309 (by decide +kernel) (by decide +kernel)
theorem tW_1310 : (Jvm.Cond.instanceMethod ({ cls := "KeepForgetModel", name := "places", desc := "(II)I" } : Jvm.MethodName)) ∈ tb := tb_t 1310 (by decide +kernel) (by decide +kernel)
theorem tW_1311 : (Jvm.Cond.selects "KeepForgetModel" ({ cls := "KeepForgetModel", name := "places", desc := "(II)I" } : Jvm.MethodName) ({ cls := "KeepForgetModel", name := "places", desc := "(II)I" } : Jvm.MethodName)) ∈ tb := tb_t 1311 (by decide +kernel) (by decide +kernel)
theorem tW_1312 : (Jvm.Cond.code ({ cls := "KeepForgetModel", name := "places", desc := "(II)I" } : Jvm.MethodName) prog_12_method_57_code (3 : Nat) (Option.some Jvm.ClassFile.FieldType.int)) ∈ tb := tb_t 1312 (by decide +kernel) (by decide +kernel)
theorem tW_1313 : (Jvm.Cond.methodLink "KeepForgetLaw" (166 : Nat) ({ cls := "KeepForgetModel", name := "misplaced", desc := "()I" } : Jvm.MethodName)) ∈ tb := tb_t 1313 (by decide +kernel) (by decide +kernel)
theorem tW_1314 : (Jvm.Cond.instanceMethod ({ cls := "KeepForgetModel", name := "misplaced", desc := "()I" } : Jvm.MethodName)) ∈ tb := tb_t 1314 (by decide +kernel) (by decide +kernel)
theorem tW_1315 : (Jvm.Cond.selects "KeepForgetModel" ({ cls := "KeepForgetModel", name := "misplaced", desc := "()I" } : Jvm.MethodName) ({ cls := "KeepForgetModel", name := "misplaced", desc := "()I" } : Jvm.MethodName)) ∈ tb := tb_t 1315 (by decide +kernel) (by decide +kernel)
theorem tW_1316 : (Jvm.Cond.code ({ cls := "KeepForgetModel", name := "misplaced", desc := "()I" } : Jvm.MethodName) prog_12_method_59_code (4 : Nat) (Option.some Jvm.ClassFile.FieldType.int)) ∈ tb := tb_t 1316 (by decide +kernel) (by decide +kernel)
theorem tW_1317 : (Jvm.Cond.methodLink "KeepForgetModel" (348 : Nat) ({ cls := "KeepForgetModel", name := "ones", desc := "(I)I" } : Jvm.MethodName)) ∈ tb := tb_t 1317 (by decide +kernel) (by decide +kernel)
theorem tW_1318 : (Jvm.Cond.static ({ cls := "KeepForgetModel", name := "ones", desc := "(I)I" } : Jvm.MethodName)) ∈ tb := tb_t 1318 (by decide +kernel) (by decide +kernel)
theorem tW_1319 : (Jvm.Cond.code ({ cls := "KeepForgetModel", name := "ones", desc := "(I)I" } : Jvm.MethodName) prog_12_method_58_code (3 : Nat) (Option.some Jvm.ClassFile.FieldType.int)) ∈ tb := tb_t 1319 (by decide +kernel) (by decide +kernel)
theorem tW_1320 : (Jvm.Cond.methodLink "KeepForgetLaw" (169 : Nat) ({ cls := "KeepForgetModel", name := "planned", desc := "(III)I" } : Jvm.MethodName)) ∈ tb := tb_t 1320 (by decide +kernel) (by decide +kernel)
theorem tW_1321 : (Jvm.Cond.instanceMethod ({ cls := "KeepForgetModel", name := "planned", desc := "(III)I" } : Jvm.MethodName)) ∈ tb := tb_t 1321 (by decide +kernel) (by decide +kernel)
theorem tW_1322 : (Jvm.Cond.selects "KeepForgetModel" ({ cls := "KeepForgetModel", name := "planned", desc := "(III)I" } : Jvm.MethodName) ({ cls := "KeepForgetModel", name := "planned", desc := "(III)I" } : Jvm.MethodName)) ∈ tb := tb_t 1322 (by decide +kernel) (by decide +kernel)
theorem tW_1323 : (Jvm.Cond.code ({ cls := "KeepForgetModel", name := "planned", desc := "(III)I" } : Jvm.MethodName) prog_12_method_60_code (5 : Nat) (Option.some Jvm.ClassFile.FieldType.int)) ∈ tb := tb_t 1323 (by decide +kernel) (by decide +kernel)
theorem tW_1324 : (Jvm.Cond.methodLink "KeepForgetLaw" (172 : Nat) ({ cls := "KeepForgetModel", name := "differ", desc := "(II)I" } : Jvm.MethodName)) ∈ tb := tb_t 1324 (by decide +kernel) (by decide +kernel)
theorem tW_1325 : (Jvm.Cond.instanceMethod ({ cls := "KeepForgetModel", name := "differ", desc := "(II)I" } : Jvm.MethodName)) ∈ tb := tb_t 1325 (by decide +kernel) (by decide +kernel)
theorem tW_1326 : (Jvm.Cond.selects "KeepForgetModel" ({ cls := "KeepForgetModel", name := "differ", desc := "(II)I" } : Jvm.MethodName) ({ cls := "KeepForgetModel", name := "differ", desc := "(II)I" } : Jvm.MethodName)) ∈ tb := tb_t 1326 (by decide +kernel) (by decide +kernel)
theorem tW_1327 : (Jvm.Cond.code ({ cls := "KeepForgetModel", name := "differ", desc := "(II)I" } : Jvm.MethodName) prog_12_method_61_code (8 : Nat) (Option.some Jvm.ClassFile.FieldType.int)) ∈ tb := tb_t 1327 (by decide +kernel) (by decide +kernel)
theorem tW_1328 : (Jvm.Cond.methodLink "KeepForgetLaw" (175 : Nat) ({ cls := "KeepForgetModel", name := "bites", desc := "(II)Z" } : Jvm.MethodName)) ∈ tb := tb_t 1328 (by decide +kernel) (by decide +kernel)
theorem tW_1329 : (Jvm.Cond.instanceMethod ({ cls := "KeepForgetModel", name := "bites", desc := "(II)Z" } : Jvm.MethodName)) ∈ tb := tb_t 1329 (by decide +kernel) (by decide +kernel)
theorem tW_1330 : (Jvm.Cond.selects "KeepForgetModel" ({ cls := "KeepForgetModel", name := "bites", desc := "(II)Z" } : Jvm.MethodName) ({ cls := "KeepForgetModel", name := "bites", desc := "(II)Z" } : Jvm.MethodName)) ∈ tb := tb_t 1330 (by decide +kernel) (by decide +kernel)
theorem tW_1331 : (Jvm.Cond.code ({ cls := "KeepForgetModel", name := "bites", desc := "(II)Z" } : Jvm.MethodName) prog_12_method_62_code (6 : Nat) (Option.some Jvm.ClassFile.FieldType.boolean)) ∈ tb := tb_t 1331 (by decide +kernel) (by decide +kernel)
theorem tW_1332 : (Jvm.Cond.methodLink "KeepForgetLaw" (178 : Nat) ({ cls := "KeepForgetModel", name := "days", desc := "(I)I" } : Jvm.MethodName)) ∈ tb := tb_t 1332 (by decide +kernel) (by decide +kernel)
theorem tW_1333 : (Jvm.Cond.instanceMethod ({ cls := "KeepForgetModel", name := "days", desc := "(I)I" } : Jvm.MethodName)) ∈ tb := tb_t 1333 (by decide +kernel) (by decide +kernel)
theorem tW_1334 : (Jvm.Cond.selects "KeepForgetModel" ({ cls := "KeepForgetModel", name := "days", desc := "(I)I" } : Jvm.MethodName) ({ cls := "KeepForgetModel", name := "days", desc := "(I)I" } : Jvm.MethodName)) ∈ tb := tb_t 1334 (by decide +kernel) (by decide +kernel)
theorem tW_1335 : (Jvm.Cond.code ({ cls := "KeepForgetModel", name := "days", desc := "(I)I" } : Jvm.MethodName) prog_12_method_64_code (4 : Nat) (Option.some Jvm.ClassFile.FieldType.int)) ∈ tb := tb_t 1335 (by decide +kernel) (by decide +kernel)
theorem tW_1336 : (Jvm.Cond.methodLink "KeepForgetModel" (357 : Nat) ({ cls := "KeepForgetModel", name := "sweep", desc := "(I)V" } : Jvm.MethodName)) ∈ tb := tb_t 1336 (by decide +kernel) (by decide +kernel)
theorem tW_1338 : (Jvm.Cond.instanceMethod ({ cls := "KeepForgetModel", name := "sweep", desc := "(I)V" } : Jvm.MethodName)) ∈ tb := tb_t 1338 (by decide +kernel) (by decide +kernel)
theorem tW_1339 : (Jvm.Cond.code ({ cls := "KeepForgetModel", name := "sweep", desc := "(I)V" } : Jvm.MethodName) prog_12_method_63_code (4 : Nat) (Option.none : Option Jvm.ClassFile.FieldType)) ∈ tb := tb_t 1339 (by decide +kernel) (by decide +kernel)
theorem tW_1340 : (Jvm.Cond.methodLink "KeepForgetLaw" (181 : Nat) ({ cls := "KeepForgetModel", name := "entry", desc := "(II)I" } : Jvm.MethodName)) ∈ tb := tb_t 1340 (by decide +kernel) (by decide +kernel)
theorem tW_1341 : (Jvm.Cond.instanceMethod ({ cls := "KeepForgetModel", name := "entry", desc := "(II)I" } : Jvm.MethodName)) ∈ tb := tb_t 1341 (by decide +kernel) (by decide +kernel)
theorem tW_1342 : (Jvm.Cond.selects "KeepForgetModel" ({ cls := "KeepForgetModel", name := "entry", desc := "(II)I" } : Jvm.MethodName) ({ cls := "KeepForgetModel", name := "entry", desc := "(II)I" } : Jvm.MethodName)) ∈ tb := tb_t 1342 (by decide +kernel) (by decide +kernel)
theorem tW_1343 : (Jvm.Cond.code ({ cls := "KeepForgetModel", name := "entry", desc := "(II)I" } : Jvm.MethodName) prog_12_method_65_code (3 : Nat) (Option.some Jvm.ClassFile.FieldType.int)) ∈ tb := tb_t 1343 (by decide +kernel) (by decide +kernel)
theorem tW_1344 : (Jvm.Cond.methodLink "KeepForgetLaw" (184 : Nat) ({ cls := "KeepForgetModel", name := "count", desc := "(I)I" } : Jvm.MethodName)) ∈ tb := tb_t 1344 (by decide +kernel) (by decide +kernel)
theorem tW_1345 : (Jvm.Cond.instanceMethod ({ cls := "KeepForgetModel", name := "count", desc := "(I)I" } : Jvm.MethodName)) ∈ tb := tb_t 1345 (by decide +kernel) (by decide +kernel)
theorem tW_1346 : (Jvm.Cond.selects "KeepForgetModel" ({ cls := "KeepForgetModel", name := "count", desc := "(I)I" } : Jvm.MethodName) ({ cls := "KeepForgetModel", name := "count", desc := "(I)I" } : Jvm.MethodName)) ∈ tb := tb_t 1346 (by decide +kernel) (by decide +kernel)
theorem tW_1347 : (Jvm.Cond.code ({ cls := "KeepForgetModel", name := "count", desc := "(I)I" } : Jvm.MethodName) prog_12_method_66_code (5 : Nat) (Option.some Jvm.ClassFile.FieldType.int)) ∈ tb := tb_t 1347 (by decide +kernel) (by decide +kernel)
theorem tW_1348 : (Jvm.Cond.arrayClass Jvm.ClassFile.FieldType.long) ∈ tb := tb_t 1348 (by decide +kernel) (by decide +kernel)
theorem tW_1364 : (Jvm.Cond.fieldLink "java/lang/String" (9 : Nat) "java/lang/String" "value" "[B") ∈ tb := tb_t 1364 (by decide +kernel) (by decide +kernel)
theorem tW_1365 : (Jvm.Cond.fieldLink "java/lang/String" (15 : Nat) "java/lang/String" "coder" "B") ∈ tb := tb_t 1365 (by decide +kernel) (by decide +kernel)
theorem tP_0 : Cond.selects "KeepForget" ⟨"KeepForget", "putOnTape", "(I)V"⟩ ⟨"KeepForget", "putOnTape", "(I)V"⟩ ∈ tb := tb_p (q := (⟨"KeepForget", "putOnTape", "(I)V"⟩, 13)) 0 (by decide +kernel) (by decide +kernel)
theorem tP_1 : Cond.selects "KeepForget" ⟨"KeepForget", "placesOf", "(LKeepForget$Thing;I)I"⟩ ⟨"KeepForget", "placesOf", "(LKeepForget$Thing;I)I"⟩ ∈ tb := tb_p (q := (⟨"KeepForget", "placesOf", "(LKeepForget$Thing;I)I"⟩, 13)) 1 (by decide +kernel) (by decide +kernel)
theorem tP_2 : Cond.selects "KeepForget" ⟨"KeepForget", "setInForce", "()LKeepForget$RuleSet;"⟩ ⟨"KeepForget", "setInForce", "()LKeepForget$RuleSet;"⟩ ∈ tb := tb_p (q := (⟨"KeepForget", "setInForce", "()LKeepForget$RuleSet;"⟩, 13)) 2 (by decide +kernel) (by decide +kernel)
theorem tP_3 : Cond.selects "KeepForget" ⟨"KeepForget", "numberInForce", "()I"⟩ ⟨"KeepForget", "numberInForce", "()I"⟩ ∈ tb := tb_p (q := (⟨"KeepForget", "numberInForce", "()I"⟩, 13)) 3 (by decide +kernel) (by decide +kernel)
theorem tP_4 : Cond.selects "java/lang/Throwable" ⟨"java/lang/Throwable", "fillInStackTrace", "(I)Ljava/lang/Throwable;"⟩ ⟨"java/lang/Throwable", "fillInStackTrace", "(I)Ljava/lang/Throwable;"⟩ ∈ tb := tb_p (q := (⟨"java/lang/Throwable", "fillInStackTrace", "(I)Ljava/lang/Throwable;"⟩, 6)) 4 (by decide +kernel) (by decide +kernel)
theorem tP_5 : Cond.selects "KeepForget$RuleReader" ⟨"KeepForget$RuleReader", "next", "()V"⟩ ⟨"KeepForget$RuleReader", "next", "()V"⟩ ∈ tb := tb_p (q := (⟨"KeepForget$RuleReader", "next", "()V"⟩, 7)) 5 (by decide +kernel) (by decide +kernel)
theorem tP_6 : Cond.selects "KeepForget$RuleReader" ⟨"KeepForget$RuleReader", "readRule", "(LKeepForget$RuleSet;)Z"⟩ ⟨"KeepForget$RuleReader", "readRule", "(LKeepForget$RuleSet;)Z"⟩ ∈ tb := tb_p (q := (⟨"KeepForget$RuleReader", "readRule", "(LKeepForget$RuleSet;)Z"⟩, 7)) 6 (by decide +kernel) (by decide +kernel)
theorem tP_7 : Cond.selects "KeepForget$RuleReader" ⟨"KeepForget$RuleReader", "ruleSort", "()I"⟩ ⟨"KeepForget$RuleReader", "ruleSort", "()I"⟩ ∈ tb := tb_p (q := (⟨"KeepForget$RuleReader", "ruleSort", "()I"⟩, 7)) 7 (by decide +kernel) (by decide +kernel)
theorem tP_8 : Cond.selects "KeepForget$RuleReader" ⟨"KeepForget$RuleReader", "isWord", "(Ljava/lang/String;)Z"⟩ ⟨"KeepForget$RuleReader", "isWord", "(Ljava/lang/String;)Z"⟩ ∈ tb := tb_p (q := (⟨"KeepForget$RuleReader", "isWord", "(Ljava/lang/String;)Z"⟩, 7)) 8 (by decide +kernel) (by decide +kernel)
theorem tP_9 : Cond.selects "KeepForget$RuleReader" ⟨"KeepForget$RuleReader", "fail", "(I)Z"⟩ ⟨"KeepForget$RuleReader", "fail", "(I)Z"⟩ ∈ tb := tb_p (q := (⟨"KeepForget$RuleReader", "fail", "(I)Z"⟩, 7)) 9 (by decide +kernel) (by decide +kernel)
theorem tP_10 : Cond.selects "KeepForget$RuleReader" ⟨"KeepForget$RuleReader", "readWhat", "(LKeepForget$Rule;)Z"⟩ ⟨"KeepForget$RuleReader", "readWhat", "(LKeepForget$Rule;)Z"⟩ ∈ tb := tb_p (q := (⟨"KeepForget$RuleReader", "readWhat", "(LKeepForget$Rule;)Z"⟩, 7)) 10 (by decide +kernel) (by decide +kernel)
theorem tP_11 : Cond.selects "KeepForget$RuleReader" ⟨"KeepForget$RuleReader", "bitOf", "(CI)I"⟩ ⟨"KeepForget$RuleReader", "bitOf", "(CI)I"⟩ ∈ tb := tb_p (q := (⟨"KeepForget$RuleReader", "bitOf", "(CI)I"⟩, 7)) 11 (by decide +kernel) (by decide +kernel)
theorem tP_12 : Cond.selects "KeepForget$RuleReader" ⟨"KeepForget$RuleReader", "numbered", "(CI)I"⟩ ⟨"KeepForget$RuleReader", "numbered", "(CI)I"⟩ ∈ tb := tb_p (q := (⟨"KeepForget$RuleReader", "numbered", "(CI)I"⟩, 7)) 12 (by decide +kernel) (by decide +kernel)
theorem tP_13 : Cond.selects "KeepForget$RuleReader" ⟨"KeepForget$RuleReader", "readStores", "(LKeepForget$Rule;)Z"⟩ ⟨"KeepForget$RuleReader", "readStores", "(LKeepForget$Rule;)Z"⟩ ∈ tb := tb_p (q := (⟨"KeepForget$RuleReader", "readStores", "(LKeepForget$Rule;)Z"⟩, 7)) 13 (by decide +kernel) (by decide +kernel)
theorem tP_14 : Cond.selects "KeepForget$RuleReader" ⟨"KeepForget$RuleReader", "readTime", "(LKeepForget$Rule;)Z"⟩ ⟨"KeepForget$RuleReader", "readTime", "(LKeepForget$Rule;)Z"⟩ ∈ tb := tb_p (q := (⟨"KeepForget$RuleReader", "readTime", "(LKeepForget$Rule;)Z"⟩, 7)) 14 (by decide +kernel) (by decide +kernel)
theorem tP_15 : Cond.selects "KeepForget$RuleReader" ⟨"KeepForget$RuleReader", "checkNumber", "()Z"⟩ ⟨"KeepForget$RuleReader", "checkNumber", "()Z"⟩ ∈ tb := tb_p (q := (⟨"KeepForget$RuleReader", "checkNumber", "()Z"⟩, 7)) 15 (by decide +kernel) (by decide +kernel)
theorem tP_16 : Cond.selects "KeepForget$RuleReader" ⟨"KeepForget$RuleReader", "number", "()I"⟩ ⟨"KeepForget$RuleReader", "number", "()I"⟩ ∈ tb := tb_p (q := (⟨"KeepForget$RuleReader", "number", "()I"⟩, 7)) 16 (by decide +kernel) (by decide +kernel)
theorem tP_17 : Cond.selects "KeepForget$RuleReader" ⟨"KeepForget$RuleReader", "readTests", "(LKeepForget$Rule;)Z"⟩ ⟨"KeepForget$RuleReader", "readTests", "(LKeepForget$Rule;)Z"⟩ ∈ tb := tb_p (q := (⟨"KeepForget$RuleReader", "readTests", "(LKeepForget$Rule;)Z"⟩, 7)) 17 (by decide +kernel) (by decide +kernel)
theorem tP_18 : Cond.selects "KeepForget$RuleReader" ⟨"KeepForget$RuleReader", "readTest", "(LKeepForget$Rule;)Z"⟩ ⟨"KeepForget$RuleReader", "readTest", "(LKeepForget$Rule;)Z"⟩ ∈ tb := tb_p (q := (⟨"KeepForget$RuleReader", "readTest", "(LKeepForget$Rule;)Z"⟩, 7)) 18 (by decide +kernel) (by decide +kernel)
theorem tP_19 : Cond.selects "KeepForget$RuleReader" ⟨"KeepForget$RuleReader", "isSign", "(C)Z"⟩ ⟨"KeepForget$RuleReader", "isSign", "(C)Z"⟩ ∈ tb := tb_p (q := (⟨"KeepForget$RuleReader", "isSign", "(C)Z"⟩, 7)) 19 (by decide +kernel) (by decide +kernel)
theorem tP_20 : Cond.selects "KeepForget$RuleReader" ⟨"KeepForget$RuleReader", "readRank", "(LKeepForget$Rule;)Z"⟩ ⟨"KeepForget$RuleReader", "readRank", "(LKeepForget$Rule;)Z"⟩ ∈ tb := tb_p (q := (⟨"KeepForget$RuleReader", "readRank", "(LKeepForget$Rule;)Z"⟩, 7)) 20 (by decide +kernel) (by decide +kernel)
theorem tP_21 : Cond.selects "KeepForget$RuleSet" ⟨"KeepForget$RuleSet", "putInTurn", "(II)V"⟩ ⟨"KeepForget$RuleSet", "putInTurn", "(II)V"⟩ ∈ tb := tb_p (q := (⟨"KeepForget$RuleSet", "putInTurn", "(II)V"⟩, 5)) 21 (by decide +kernel) (by decide +kernel)
theorem tP_22 : Cond.selects "KeepForget" ⟨"KeepForget", "thingAt", "(I)LKeepForget$Thing;"⟩ ⟨"KeepForget", "thingAt", "(I)LKeepForget$Thing;"⟩ ∈ tb := tb_p (q := (⟨"KeepForget", "thingAt", "(I)LKeepForget$Thing;"⟩, 13)) 22 (by decide +kernel) (by decide +kernel)
theorem tP_23 : Cond.selects "KeepForget" ⟨"KeepForget", "heldFields", "(LKeepForget$Thing;)I"⟩ ⟨"KeepForget", "heldFields", "(LKeepForget$Thing;)I"⟩ ∈ tb := tb_p (q := (⟨"KeepForget", "heldFields", "(LKeepForget$Thing;)I"⟩, 13)) 23 (by decide +kernel) (by decide +kernel)
theorem tP_24 : Cond.selects "KeepForget$Span" ⟨"KeepForget$Span", "take", "(III)V"⟩ ⟨"KeepForget$Span", "take", "(III)V"⟩ ∈ tb := tb_p (q := (⟨"KeepForget$Span", "take", "(III)V"⟩, 8)) 24 (by decide +kernel) (by decide +kernel)
theorem tP_25 : Cond.selects "KeepForget$Span" ⟨"KeepForget$Span", "keepUntil", "(II)V"⟩ ⟨"KeepForget$Span", "keepUntil", "(II)V"⟩ ∈ tb := tb_p (q := (⟨"KeepForget$Span", "keepUntil", "(II)V"⟩, 8)) 25 (by decide +kernel) (by decide +kernel)
theorem tP_26 : Cond.selects "KeepForget$Span" ⟨"KeepForget$Span", "lose", "(I)V"⟩ ⟨"KeepForget$Span", "lose", "(I)V"⟩ ∈ tb := tb_p (q := (⟨"KeepForget$Span", "lose", "(I)V"⟩, 8)) 26 (by decide +kernel) (by decide +kernel)
theorem tP_27 : Cond.selects "KeepForget$Span" ⟨"KeepForget$Span", "endAt", "(II)V"⟩ ⟨"KeepForget$Span", "endAt", "(II)V"⟩ ∈ tb := tb_p (q := (⟨"KeepForget$Span", "endAt", "(II)V"⟩, 8)) 27 (by decide +kernel) (by decide +kernel)
theorem tP_28 : Cond.selects "KeepForget" ⟨"KeepForget", "chosenSet", "(I)LKeepForget$RuleSet;"⟩ ⟨"KeepForget", "chosenSet", "(I)LKeepForget$RuleSet;"⟩ ∈ tb := tb_p (q := (⟨"KeepForget", "chosenSet", "(I)LKeepForget$RuleSet;"⟩, 13)) 28 (by decide +kernel) (by decide +kernel)
theorem tP_29 : Cond.selects "KeepForget" ⟨"KeepForget", "setAt", "(I)LKeepForget$RuleSet;"⟩ ⟨"KeepForget", "setAt", "(I)LKeepForget$RuleSet;"⟩ ∈ tb := tb_p (q := (⟨"KeepForget", "setAt", "(I)LKeepForget$RuleSet;"⟩, 13)) 29 (by decide +kernel) (by decide +kernel)
theorem tP_30 : Cond.selects "KeepForget" ⟨"KeepForget", "plannedDay", "(LKeepForget$Thing;IILKeepForget$RuleSet;)I"⟩ ⟨"KeepForget", "plannedDay", "(LKeepForget$Thing;IILKeepForget$RuleSet;)I"⟩ ∈ tb := tb_p (q := (⟨"KeepForget", "plannedDay", "(LKeepForget$Thing;IILKeepForget$RuleSet;)I"⟩, 13)) 30 (by decide +kernel) (by decide +kernel)
theorem tP_31 : Cond.selects "KeepForget" ⟨"KeepForget", "nextBusyDay", "(I)I"⟩ ⟨"KeepForget", "nextBusyDay", "(I)I"⟩ ∈ tb := tb_p (q := (⟨"KeepForget", "nextBusyDay", "(I)I"⟩, 13)) 31 (by decide +kernel) (by decide +kernel)
theorem tP_32 : Cond.selects "KeepForget" ⟨"KeepForget", "sweep", "(I)V"⟩ ⟨"KeepForget", "sweep", "(I)V"⟩ ∈ tb := tb_p (q := (⟨"KeepForget", "sweep", "(I)V"⟩, 13)) 32 (by decide +kernel) (by decide +kernel)
theorem tP_33 : Cond.selects "KeepForget" ⟨"KeepForget", "copyCount", "()I"⟩ ⟨"KeepForget", "copyCount", "()I"⟩ ∈ tb := tb_p (q := (⟨"KeepForget", "copyCount", "()I"⟩, 13)) 33 (by decide +kernel) (by decide +kernel)
theorem tP_34 : Cond.selects "KeepForget" ⟨"KeepForget", "openHoldCount", "()I"⟩ ⟨"KeepForget", "openHoldCount", "()I"⟩ ∈ tb := tb_p (q := (⟨"KeepForget", "openHoldCount", "()I"⟩, 13)) 34 (by decide +kernel) (by decide +kernel)
theorem tP_35 : Cond.selects "KeepForgetModel" ⟨"KeepForgetModel", "fail", "(I)I"⟩ ⟨"KeepForgetModel", "fail", "(I)I"⟩ ∈ tb := tb_p (q := (⟨"KeepForgetModel", "fail", "(I)I"⟩, 60)) 35 (by decide +kernel) (by decide +kernel)
theorem tP_36 : Cond.selects "KeepForgetModel" ⟨"KeepForgetModel", "step", "()V"⟩ ⟨"KeepForgetModel", "step", "()V"⟩ ∈ tb := tb_p (q := (⟨"KeepForgetModel", "step", "()V"⟩, 60)) 36 (by decide +kernel) (by decide +kernel)
theorem tP_37 : Cond.selects "KeepForgetModel" ⟨"KeepForgetModel", "byteAt", "(I)I"⟩ ⟨"KeepForgetModel", "byteAt", "(I)I"⟩ ∈ tb := tb_p (q := (⟨"KeepForgetModel", "byteAt", "(I)I"⟩, 60)) 37 (by decide +kernel) (by decide +kernel)
theorem tP_38 : Cond.selects "KeepForgetModel" ⟨"KeepForgetModel", "isWord", "(Ljava/lang/String;)Z"⟩ ⟨"KeepForgetModel", "isWord", "(Ljava/lang/String;)Z"⟩ ∈ tb := tb_p (q := (⟨"KeepForgetModel", "isWord", "(Ljava/lang/String;)Z"⟩, 60)) 38 (by decide +kernel) (by decide +kernel)
theorem tP_39 : Cond.selects "KeepForgetModel" ⟨"KeepForgetModel", "wrong", "(I)V"⟩ ⟨"KeepForgetModel", "wrong", "(I)V"⟩ ∈ tb := tb_p (q := (⟨"KeepForgetModel", "wrong", "(I)V"⟩, 60)) 39 (by decide +kernel) (by decide +kernel)
theorem tP_40 : Cond.selects "KeepForgetModel" ⟨"KeepForgetModel", "readRule", "()V"⟩ ⟨"KeepForgetModel", "readRule", "()V"⟩ ∈ tb := tb_p (q := (⟨"KeepForgetModel", "readRule", "()V"⟩, 60)) 40 (by decide +kernel) (by decide +kernel)
theorem tP_41 : Cond.selects "KeepForgetModel" ⟨"KeepForgetModel", "readWhat", "()V"⟩ ⟨"KeepForgetModel", "readWhat", "()V"⟩ ∈ tb := tb_p (q := (⟨"KeepForgetModel", "readWhat", "()V"⟩, 60)) 41 (by decide +kernel) (by decide +kernel)
theorem tP_42 : Cond.selects "KeepForgetModel" ⟨"KeepForgetModel", "readNumbered", "(II)I"⟩ ⟨"KeepForgetModel", "readNumbered", "(II)I"⟩ ∈ tb := tb_p (q := (⟨"KeepForgetModel", "readNumbered", "(II)I"⟩, 60)) 42 (by decide +kernel) (by decide +kernel)
theorem tP_43 : Cond.selects "KeepForgetModel" ⟨"KeepForgetModel", "numbered", "(II)I"⟩ ⟨"KeepForgetModel", "numbered", "(II)I"⟩ ∈ tb := tb_p (q := (⟨"KeepForgetModel", "numbered", "(II)I"⟩, 60)) 43 (by decide +kernel) (by decide +kernel)
theorem tP_44 : Cond.selects "KeepForgetModel" ⟨"KeepForgetModel", "readNumber", "()I"⟩ ⟨"KeepForgetModel", "readNumber", "()I"⟩ ∈ tb := tb_p (q := (⟨"KeepForgetModel", "readNumber", "()I"⟩, 60)) 44 (by decide +kernel) (by decide +kernel)
theorem tP_45 : Cond.selects "KeepForgetModel" ⟨"KeepForgetModel", "word", "(Ljava/lang/String;)V"⟩ ⟨"KeepForgetModel", "word", "(Ljava/lang/String;)V"⟩ ∈ tb := tb_p (q := (⟨"KeepForgetModel", "word", "(Ljava/lang/String;)V"⟩, 60)) 45 (by decide +kernel) (by decide +kernel)
theorem tP_46 : Cond.selects "KeepForgetModel" ⟨"KeepForgetModel", "readTests", "()V"⟩ ⟨"KeepForgetModel", "readTests", "()V"⟩ ∈ tb := tb_p (q := (⟨"KeepForgetModel", "readTests", "()V"⟩, 60)) 46 (by decide +kernel) (by decide +kernel)
theorem tP_47 : Cond.selects "KeepForgetModel" ⟨"KeepForgetModel", "isThing", "(I)Z"⟩ ⟨"KeepForgetModel", "isThing", "(I)Z"⟩ ∈ tb := tb_p (q := (⟨"KeepForgetModel", "isThing", "(I)Z"⟩, 60)) 47 (by decide +kernel) (by decide +kernel)
theorem tP_48 : Cond.selects "KeepForgetModel" ⟨"KeepForgetModel", "placesOf", "(II)I"⟩ ⟨"KeepForgetModel", "placesOf", "(II)I"⟩ ∈ tb := tb_p (q := (⟨"KeepForgetModel", "placesOf", "(II)I"⟩, 60)) 48 (by decide +kernel) (by decide +kernel)
theorem tP_49 : Cond.selects "KeepForgetModel" ⟨"KeepForgetModel", "force", "(I)I"⟩ ⟨"KeepForgetModel", "force", "(I)I"⟩ ∈ tb := tb_p (q := (⟨"KeepForgetModel", "force", "(I)I"⟩, 60)) 49 (by decide +kernel) (by decide +kernel)
theorem tP_50 : Cond.selects "KeepForgetModel" ⟨"KeepForgetModel", "isFor", "(III)Z"⟩ ⟨"KeepForgetModel", "isFor", "(III)Z"⟩ ∈ tb := tb_p (q := (⟨"KeepForgetModel", "isFor", "(III)Z"⟩, 60)) 50 (by decide +kernel) (by decide +kernel)
theorem tP_51 : Cond.selects "KeepForgetModel" ⟨"KeepForgetModel", "isDue", "(III)Z"⟩ ⟨"KeepForgetModel", "isDue", "(III)Z"⟩ ∈ tb := tb_p (q := (⟨"KeepForgetModel", "isDue", "(III)Z"⟩, 60)) 51 (by decide +kernel) (by decide +kernel)
theorem tP_52 : Cond.selects "KeepForgetModel" ⟨"KeepForgetModel", "know", "(II)V"⟩ ⟨"KeepForgetModel", "know", "(II)V"⟩ ∈ tb := tb_p (q := (⟨"KeepForgetModel", "know", "(II)V"⟩, 60)) 52 (by decide +kernel) (by decide +kernel)
theorem tP_53 : Cond.selects "KeepForgetModel" ⟨"KeepForgetModel", "tell", "(III)V"⟩ ⟨"KeepForgetModel", "tell", "(III)V"⟩ ∈ tb := tb_p (q := (⟨"KeepForgetModel", "tell", "(III)V"⟩, 60)) 53 (by decide +kernel) (by decide +kernel)
theorem tP_54 : Cond.selects "KeepForgetModel" ⟨"KeepForgetModel", "bid", "(III)V"⟩ ⟨"KeepForgetModel", "bid", "(III)V"⟩ ∈ tb := tb_p (q := (⟨"KeepForgetModel", "bid", "(III)V"⟩, 60)) 54 (by decide +kernel) (by decide +kernel)
theorem tP_55 : Cond.selects "KeepForgetModel" ⟨"KeepForgetModel", "until", "(II)I"⟩ ⟨"KeepForgetModel", "until", "(II)I"⟩ ∈ tb := tb_p (q := (⟨"KeepForgetModel", "until", "(II)I"⟩, 60)) 55 (by decide +kernel) (by decide +kernel)
theorem tP_56 : Cond.selects "KeepForgetModel" ⟨"KeepForgetModel", "isHeld", "(II)Z"⟩ ⟨"KeepForgetModel", "isHeld", "(II)Z"⟩ ∈ tb := tb_p (q := (⟨"KeepForgetModel", "isHeld", "(II)Z"⟩, 60)) 56 (by decide +kernel) (by decide +kernel)
theorem tP_57 : Cond.selects "KeepForgetModel" ⟨"KeepForgetModel", "isSet", "(I)Z"⟩ ⟨"KeepForgetModel", "isSet", "(I)Z"⟩ ∈ tb := tb_p (q := (⟨"KeepForgetModel", "isSet", "(I)Z"⟩, 60)) 57 (by decide +kernel) (by decide +kernel)
theorem tP_58 : Cond.selects "KeepForgetModel" ⟨"KeepForgetModel", "sweep", "(I)V"⟩ ⟨"KeepForgetModel", "sweep", "(I)V"⟩ ∈ tb := tb_p (q := (⟨"KeepForgetModel", "sweep", "(I)V"⟩, 60)) 58 (by decide +kernel) (by decide +kernel)
end
section
theorem hinX1 : ∀ w ∈ wsX10, w ∈ tb := by decide +kernel
theorem hinX2 : ∀ w ∈ wsX20, w ∈ tb := by decide +kernel
theorem hinX3 : ∀ w ∈ wsX30, w ∈ tb := by decide +kernel
theorem hinX4 : ∀ w ∈ wsX40, w ∈ tb := by decide +kernel
theorem hinX5 : ∀ w ∈ wsX50, w ∈ tb := by decide +kernel
theorem hinX6 : ∀ w ∈ wsX60, w ∈ tb := by decide +kernel
theorem hinX7 : ∀ w ∈ wsX70, w ∈ tb := by decide +kernel
theorem hinX8 : ∀ w ∈ wsX80, w ∈ tb := by decide +kernel
theorem hinX9 : ∀ w ∈ wsX90, w ∈ tb := by decide +kernel
theorem hinX10 : ∀ w ∈ wsX100, w ∈ tb := by decide +kernel
end
section
/-! the judgement gS: the machine at a frame, beside a function's rest 'o' (an Option): where o is some X, the machine comes to QX X -/
section GS
def gS {S Rt : Type} (p : Program) (l : Launch) (e : Env) (R : Room) (s : State) (m : MethodId) (args : Array Value) (below : List Frame) (meth : Method) (c : Code) (nL : Nat) (A : Nat → Prop) (Wd : S → State → Heap → Prop) (QX : Rt → State → Prop) (cells slots : Nat) (o : Option Rt) (σ : S) (pc : Nat) (lv : List (Nat × Value)) (st : List Value) : Prop :=
  ∀ X, o = some X → ∀ (H : Heap) (locs : List Loc) (ls : Array Slot), Wd σ s H → va_S A s.heap H locs → lv_has ls nL lv → W p l e R s m args below meth c H locs cells slots (QX X) (F0 m pc ls st)
def gOk (p : Program) (s : State) (m : MethodId) (args : Array Value) (meth : Method) (c : Code) (cc : ByteArray) (nL : Nat) (own : String) (Ts : List Cond) : Prop := CallFix p m c cc nL s args Ts own ∧ meth.locks = false
def okI (i : Int32) (n : Nat) : Bool := decide (¬ (i < 0 ∨ n ≤ i.toNatClampNeg))
theorem okI_in {i : Int32} {n : Nat} (h : okI i n = true) : vp_in i n := of_decide_eq_true (p := ¬ (i < 0 ∨ n ≤ i.toNatClampNeg)) h
theorem okI_iff {i : Int32} {n : Nat} : okI i n = true ↔ 0 ≤ i.toInt ∧ i.toInt < n := by rw [← vp_in_iff]; exact ⟨okI_in, fun h => decide_eq_true (p := ¬ (i < 0 ∨ n ≤ i.toNatClampNeg)) h⟩
def okZ (x : Int32) : Bool := decide (x = 0 ∨ x = 1)
theorem okZ_nar {x : Int32} (h : okZ x = true) : narrow .boolean (.int x) = .int x := by
  rcases (of_decide_eq_true h : x = 0 ∨ x = 1) with rfl | rfl <;> decide
theorem okZ_fit {x : Int32} (h : okZ x = true) : fits .boolean (.int x) = true := by
  rcases (of_decide_eq_true h : x = 0 ∨ x = 1) with rfl | rfl <;> decide
def gMv {S : Type} (Wd : S → State → Heap → Prop) : Prop := ∀ (σ : S) (u U : State) (H : Heap), u.vm.Alike U.vm → Wd σ u H → Wd σ U H
def gKw (Ke : State → Prop) : Prop := ∀ (u U : State), u.WarmedH U.vm → Ke u → Ke U
def gPre {S : Type} (Ke : State → Prop) (Wd : S → State → Heap → Prop) (av : List Value) (σ : S) : Array Value → State → Prop := va_Pc av (fun U => Wd σ U U.heap ∧ Ke U)
def bi {S Rt : Type} (o : Option (Int32 × S)) (k : Int32 → S → Option Rt) : Option Rt := match o with
  | none => none
  | some u => k u.1 u.2
def bnd {α Rt : Type} (v : α) (k : α → Option Rt) : Option Rt := k v
def gPi {S : Type} (Wd : S → State → Heap → Prop) (A : Nat → Prop) (X : Int32 × S) : Array Value → State → Outcome → State → Prop := va_Qi (fun r u => (r, u) = X) (fun u t => Wd u t t.heap) A
def gPv {S : Type} (Wd : S → State → Heap → Prop) (A : Nat → Prop) (X : S) : Array Value → State → Outcome → State → Prop := va_Qv (fun u => u = X) (fun u t => Wd u t t.heap) A
def gCi {S : Type} (l : Launch) (y : MethodName) (cc : ByteArray) (n : Nat) (ret : Option FieldType) (rm : Room) (Ke : State → Prop) (Wd : S → State → Heap → Prop) (A : Nat → Prop) (av : List Value) (σ : S) (o : Option (Int32 × S)) : Prop := ∀ X, o = some X → Met l y (wt y cc n ret) rm (gPre Ke Wd av σ) (gPi Wd A X) rm.cells rm.slots A
def gCv {S : Type} (l : Launch) (y : MethodName) (cc : ByteArray) (n : Nat) (ret : Option FieldType) (rm : Room) (Ke : State → Prop) (Wd : S → State → Heap → Prop) (A : Nat → Prop) (av : List Value) (σ : S) (o : Option S) : Prop := ∀ X, o = some X → Met l y (wt y cc n ret) rm (gPre Ke Wd av σ) (gPv Wd A X) rm.cells rm.slots A
variable {p : Program} {l : Launch} {e : Env} {R : Room} {s : State} {m : MethodId} {args : Array Value} {below : List Frame} {meth : Method} {c : Code}
variable {S Rt : Type} {cc : ByteArray} {nL : Nat} {own : String} {Ts : List Cond} {A : Nat → Prop} {Wd : S → State → Heap → Prop} {QX : Rt → State → Prop} {cells slots : Nat} {o o1 o2 : Option Rt} {σ : S} {pc : Nat} {lv : List (Nat × Value)} {st : List Value}
theorem g_iconst (h : gOk p s m args meth c cc nL own Ts) {n : Int} {v : Int32} (hd : decode cc pc = .ok (.iconst n, 1)) (hv : Int32.ofInt n = v) (kk : gS p l e R s m args below meth c nL A Wd QX cells slots o σ (pc + 1) lv (.int v :: st)) : gS p l e R s m args below meth c nL A Wd QX cells slots o σ pc lv (st) := fun X hX H locs ls hw hS hl => lv_iconst h.1.1 h.1.2.1 hd hv (kk X hX H locs ls hw hS hl)
theorem g_bipush (h : gOk p s m args meth c cc nL own Ts) {n : Int} {v : Int32} (hd : decode cc pc = .ok (.bipush n, 2)) (hv : (Int8.ofInt n).toInt32 = v) (kk : gS p l e R s m args below meth c nL A Wd QX cells slots o σ (pc + 2) lv (.int v :: st)) : gS p l e R s m args below meth c nL A Wd QX cells slots o σ pc lv (st) := fun X hX H locs ls hw hS hl => lv_bipush h.1.1 h.1.2.1 hd hv (kk X hX H locs ls hw hS hl)
theorem g_sipush (h : gOk p s m args meth c cc nL own Ts) {n : Int} {v : Int32} (hd : decode cc pc = .ok (.sipush n, 3)) (hv : (Int16.ofInt n).toInt32 = v) (kk : gS p l e R s m args below meth c nL A Wd QX cells slots o σ (pc + 3) lv (.int v :: st)) : gS p l e R s m args below meth c nL A Wd QX cells slots o σ pc lv (st) := fun X hX H locs ls hw hS hl => lv_sipush h.1.1 h.1.2.1 hd hv (kk X hX H locs ls hw hS hl)
theorem g_lconst (h : gOk p s m args meth c cc nL own Ts) {n : Fin 2} {v : Int64} (hd : decode cc pc = .ok (.lconst n, 1)) (hv : Int64.ofNat (n : Nat) = v) (kk : gS p l e R s m args below meth c nL A Wd QX cells slots o σ (pc + 1) lv (.long v :: st)) : gS p l e R s m args below meth c nL A Wd QX cells slots o σ pc lv (st) := fun X hX H locs ls hw hS hl => lv_lconst h.1.1 h.1.2.1 hd hv (kk X hX H locs ls hw hS hl)
theorem g_ldc (h : gOk p s m args meth c cc nL own Ts) {index : Nat} {v : Int32} (hc : Cond.constant own index v ∈ Ts) (hd : decode cc pc = .ok (.ldc index, 2)) (kk : gS p l e R s m args below meth c nL A Wd QX cells slots o σ (pc + 2) lv (.int v :: st)) : gS p l e R s m args below meth c nL A Wd QX cells slots o σ pc lv (st) := fun X hX H locs ls hw hS hl => lv_ldc h.1.1 h.1.2.1 h.1.2.2.2.1 (h.1.2.2.2.2 _ hc) hd (kk X hX H locs ls hw hS hl)
theorem g_ldc2 (h : gOk p s m args meth c cc nL own Ts) {index : Nat} {v : Int64} (hc : Cond.constantLong own index v ∈ Ts) (hd : decode cc pc = .ok (.ldc2_w index, 3)) (kk : gS p l e R s m args below meth c nL A Wd QX cells slots o σ (pc + 3) lv (.long v :: st)) : gS p l e R s m args below meth c nL A Wd QX cells slots o σ pc lv (st) := fun X hX H locs ls hw hS hl => lv_ldc2 h.1.1 h.1.2.1 h.1.2.2.2.1 (h.1.2.2.2.2 _ hc) hd (kk X hX H locs ls hw hS hl)
theorem g_iload_n (h : gOk p s m args meth c cc nL own Ts) {k : Fin 4} {v : Int32} (i : Nat) (hd : decode cc pc = .ok (.iload_n k, 1)) (hi : lv[i]? = some ((k : Nat), .int v)) (kk : gS p l e R s m args below meth c nL A Wd QX cells slots o σ (pc + 1) lv (.int v :: st)) : gS p l e R s m args below meth c nL A Wd QX cells slots o σ pc lv (st) := fun X hX H locs ls hw hS hl => lv_iload_n h.1.1 h.1.2.1 hd rfl (lv_at hl i hi) (kk X hX H locs ls hw hS hl)
theorem g_iload (h : gOk p s m args meth c cc nL own Ts) {k : Nat} {v : Int32} (i : Nat) (hd : decode cc pc = .ok (.iload k, 2)) (hi : lv[i]? = some (k, .int v)) (kk : gS p l e R s m args below meth c nL A Wd QX cells slots o σ (pc + 2) lv (.int v :: st)) : gS p l e R s m args below meth c nL A Wd QX cells slots o σ pc lv (st) := fun X hX H locs ls hw hS hl => lv_iload h.1.1 h.1.2.1 hd (lv_at hl i hi) (kk X hX H locs ls hw hS hl)
theorem g_lload_n (h : gOk p s m args meth c cc nL own Ts) {k : Fin 4} {v : Int64} (i : Nat) (hd : decode cc pc = .ok (.lload_n k, 1)) (hi : lv[i]? = some ((k : Nat), .long v)) (kk : gS p l e R s m args below meth c nL A Wd QX cells slots o σ (pc + 1) lv (.long v :: st)) : gS p l e R s m args below meth c nL A Wd QX cells slots o σ pc lv (st) := fun X hX H locs ls hw hS hl => lv_lload_n h.1.1 h.1.2.1 hd rfl (lv_at hl i hi) (kk X hX H locs ls hw hS hl)
theorem g_lload (h : gOk p s m args meth c cc nL own Ts) {k : Nat} {v : Int64} (i : Nat) (hd : decode cc pc = .ok (.lload k, 2)) (hi : lv[i]? = some (k, .long v)) (kk : gS p l e R s m args below meth c nL A Wd QX cells slots o σ (pc + 2) lv (.long v :: st)) : gS p l e R s m args below meth c nL A Wd QX cells slots o σ pc lv (st) := fun X hX H locs ls hw hS hl => lv_lload h.1.1 h.1.2.1 hd (lv_at hl i hi) (kk X hX H locs ls hw hS hl)
theorem g_aload_n (h : gOk p s m args meth c cc nL own Ts) {k : Fin 4} {v : Nat} (i : Nat) (hd : decode cc pc = .ok (.aload_n k, 1)) (hi : lv[i]? = some ((k : Nat), .ref v)) (kk : gS p l e R s m args below meth c nL A Wd QX cells slots o σ (pc + 1) lv (.ref v :: st)) : gS p l e R s m args below meth c nL A Wd QX cells slots o σ pc lv (st) := fun X hX H locs ls hw hS hl => lv_aload_n h.1.1 h.1.2.1 hd rfl (lv_at hl i hi) (kk X hX H locs ls hw hS hl)
theorem g_aload (h : gOk p s m args meth c cc nL own Ts) {k : Nat} {v : Nat} (i : Nat) (hd : decode cc pc = .ok (.aload k, 2)) (hi : lv[i]? = some (k, .ref v)) (kk : gS p l e R s m args below meth c nL A Wd QX cells slots o σ (pc + 2) lv (.ref v :: st)) : gS p l e R s m args below meth c nL A Wd QX cells slots o σ pc lv (st) := fun X hX H locs ls hw hS hl => lv_aload h.1.1 h.1.2.1 hd (lv_at hl i hi) (kk X hX H locs ls hw hS hl)
theorem g_istore_n (h : gOk p s m args meth c cc nL own Ts) {k : Fin 4} {v : Int32} (lv' : List (Nat × Value)) (hd : decode cc pc = .ok (.istore_n k, 1)) (hn : (k : Nat) < nL) (hv : ((k : Nat), Value.int v) :: lv.filter (fun q => !(q.1 == (k : Nat)) && !(q.1 + 1 == (k : Nat) && q.2.category == 2)) = lv') (kk : gS p l e R s m args below meth c nL A Wd QX cells slots o σ (pc + 1) lv' st) : gS p l e R s m args below meth c nL A Wd QX cells slots o σ pc lv (.int v :: st) := fun X hX H locs ls hw hS hl => lv_istore_n h.1.1 h.1.2.1 hd rfl hl hn hv (fun ls' hl' => kk X hX H locs ls' hw hS hl')
theorem g_istore (h : gOk p s m args meth c cc nL own Ts) {k : Nat} {v : Int32} (lv' : List (Nat × Value)) (hd : decode cc pc = .ok (.istore k, 2)) (hn : k < nL) (hv : (k, Value.int v) :: lv.filter (fun q => !(q.1 == k) && !(q.1 + 1 == k && q.2.category == 2)) = lv') (kk : gS p l e R s m args below meth c nL A Wd QX cells slots o σ (pc + 2) lv' st) : gS p l e R s m args below meth c nL A Wd QX cells slots o σ pc lv (.int v :: st) := fun X hX H locs ls hw hS hl => lv_istore h.1.1 h.1.2.1 hd hl hn hv (fun ls' hl' => kk X hX H locs ls' hw hS hl')
theorem g_astore_n (h : gOk p s m args meth c cc nL own Ts) {k : Fin 4} {v : Nat} (lv' : List (Nat × Value)) (hd : decode cc pc = .ok (.astore_n k, 1)) (hn : (k : Nat) < nL) (hv : ((k : Nat), Value.ref v) :: lv.filter (fun q => !(q.1 == (k : Nat)) && !(q.1 + 1 == (k : Nat) && q.2.category == 2)) = lv') (kk : gS p l e R s m args below meth c nL A Wd QX cells slots o σ (pc + 1) lv' st) : gS p l e R s m args below meth c nL A Wd QX cells slots o σ pc lv (.ref v :: st) := fun X hX H locs ls hw hS hl => lv_astore_n h.1.1 h.1.2.1 hd rfl hl hn hv (fun ls' hl' => kk X hX H locs ls' hw hS hl')
theorem g_astore (h : gOk p s m args meth c cc nL own Ts) {k : Nat} {v : Nat} (lv' : List (Nat × Value)) (hd : decode cc pc = .ok (.astore k, 2)) (hn : k < nL) (hv : (k, Value.ref v) :: lv.filter (fun q => !(q.1 == k) && !(q.1 + 1 == k && q.2.category == 2)) = lv') (kk : gS p l e R s m args below meth c nL A Wd QX cells slots o σ (pc + 2) lv' st) : gS p l e R s m args below meth c nL A Wd QX cells slots o σ pc lv (.ref v :: st) := fun X hX H locs ls hw hS hl => lv_astore h.1.1 h.1.2.1 hd hl hn hv (fun ls' hl' => kk X hX H locs ls' hw hS hl')
theorem g_iinc (h : gOk p s m args meth c cc nL own Ts) {k i : Nat} {n : Int} {x v : Int32} (lv' : List (Nat × Value)) (hd : decode cc pc = .ok (.iinc k n, 3)) (hk : lv[i]? = some (k, .int x)) (hv : x + Int32.ofInt n = v) (hn : k < nL) (hl' : (k, Value.int v) :: lv.filter (fun q => !(q.1 == k) && !(q.1 + 1 == k && q.2.category == 2)) = lv') (kk : gS p l e R s m args below meth c nL A Wd QX cells slots o σ (pc + 3) lv' st) : gS p l e R s m args below meth c nL A Wd QX cells slots o σ pc lv st := fun X hX H locs ls hw hS hl => lv_iinc h.1.1 h.1.2.1 hd hl hk hv hn hl' (fun ls' hl2 => kk X hX H locs ls' hw hS hl2)
theorem g_lv (lv' : List (Nat × Value)) (ks : List Nat) (hp : lv_pick lv ks = lv') (kk : gS p l e R s m args below meth c nL A Wd QX cells slots o σ pc lv' st) : gS p l e R s m args below meth c nL A Wd QX cells slots o σ pc lv st := fun X hX H locs ls hw hS hl => kk X hX H locs ls hw hS (lv_sub hl ks hp)
theorem g_iadd (h : gOk p s m args meth c cc nL own Ts) {x y : Int32} (hd : decode cc pc = .ok (.iadd, 1)) (kk : gS p l e R s m args below meth c nL A Wd QX cells slots o σ (pc + 1) lv (.int (x + y) :: st)) : gS p l e R s m args below meth c nL A Wd QX cells slots o σ pc lv (.int y :: .int x :: st) := fun X hX H locs ls hw hS hl => lv_iadd h.1.1 h.1.2.1 hd (kk X hX H locs ls hw hS hl)
theorem g_isub (h : gOk p s m args meth c cc nL own Ts) {x y : Int32} (hd : decode cc pc = .ok (.isub, 1)) (kk : gS p l e R s m args below meth c nL A Wd QX cells slots o σ (pc + 1) lv (.int (x - y) :: st)) : gS p l e R s m args below meth c nL A Wd QX cells slots o σ pc lv (.int y :: .int x :: st) := fun X hX H locs ls hw hS hl => lv_isub h.1.1 h.1.2.1 hd (kk X hX H locs ls hw hS hl)
theorem g_imul (h : gOk p s m args meth c cc nL own Ts) {x y : Int32} (hd : decode cc pc = .ok (.imul, 1)) (kk : gS p l e R s m args below meth c nL A Wd QX cells slots o σ (pc + 1) lv (.int (x * y) :: st)) : gS p l e R s m args below meth c nL A Wd QX cells slots o σ pc lv (.int y :: .int x :: st) := fun X hX H locs ls hw hS hl => lv_imul h.1.1 h.1.2.1 hd (kk X hX H locs ls hw hS hl)
theorem g_iand (h : gOk p s m args meth c cc nL own Ts) {x y : Int32} (hd : decode cc pc = .ok (.iand, 1)) (kk : gS p l e R s m args below meth c nL A Wd QX cells slots o σ (pc + 1) lv (.int (x &&& y) :: st)) : gS p l e R s m args below meth c nL A Wd QX cells slots o σ pc lv (.int y :: .int x :: st) := fun X hX H locs ls hw hS hl => lv_iand h.1.1 h.1.2.1 hd (kk X hX H locs ls hw hS hl)
theorem g_ior (h : gOk p s m args meth c cc nL own Ts) {x y : Int32} (hd : decode cc pc = .ok (.ior, 1)) (kk : gS p l e R s m args below meth c nL A Wd QX cells slots o σ (pc + 1) lv (.int (x ||| y) :: st)) : gS p l e R s m args below meth c nL A Wd QX cells slots o σ pc lv (.int y :: .int x :: st) := fun X hX H locs ls hw hS hl => lv_ior h.1.1 h.1.2.1 hd (kk X hX H locs ls hw hS hl)
theorem g_ixor (h : gOk p s m args meth c cc nL own Ts) {x y : Int32} (hd : decode cc pc = .ok (.ixor, 1)) (kk : gS p l e R s m args below meth c nL A Wd QX cells slots o σ (pc + 1) lv (.int (x ^^^ y) :: st)) : gS p l e R s m args below meth c nL A Wd QX cells slots o σ pc lv (.int y :: .int x :: st) := fun X hX H locs ls hw hS hl => lv_ixor h.1.1 h.1.2.1 hd (kk X hX H locs ls hw hS hl)
theorem g_ishl (h : gOk p s m args meth c cc nL own Ts) {x y : Int32} (hd : decode cc pc = .ok (.ishl, 1)) (kk : gS p l e R s m args below meth c nL A Wd QX cells slots o σ (pc + 1) lv (.int (x <<< (y &&& 31)) :: st)) : gS p l e R s m args below meth c nL A Wd QX cells slots o σ pc lv (.int y :: .int x :: st) := fun X hX H locs ls hw hS hl => lv_ishl h.1.1 h.1.2.1 hd (kk X hX H locs ls hw hS hl)
theorem g_ishr (h : gOk p s m args meth c cc nL own Ts) {x y : Int32} (hd : decode cc pc = .ok (.ishr, 1)) (kk : gS p l e R s m args below meth c nL A Wd QX cells slots o σ (pc + 1) lv (.int (x >>> (y &&& 31)) :: st)) : gS p l e R s m args below meth c nL A Wd QX cells slots o σ pc lv (.int y :: .int x :: st) := fun X hX H locs ls hw hS hl => lv_ishr h.1.1 h.1.2.1 hd (kk X hX H locs ls hw hS hl)
theorem g_iushr (h : gOk p s m args meth c cc nL own Ts) {x y : Int32} (hd : decode cc pc = .ok (.iushr, 1)) (kk : gS p l e R s m args below meth c nL A Wd QX cells slots o σ (pc + 1) lv (.int ((x.toUInt32 >>> (y.toUInt32 &&& Int32.toUInt32 31)).toInt32) :: st)) : gS p l e R s m args below meth c nL A Wd QX cells slots o σ pc lv (.int y :: .int x :: st) := fun X hX H locs ls hw hS hl => lv_iushr h.1.1 h.1.2.1 hd rfl (kk X hX H locs ls hw hS hl)
theorem g_ineg (h : gOk p s m args meth c cc nL own Ts) {x : Int32} (hd : decode cc pc = .ok (.ineg, 1)) (kk : gS p l e R s m args below meth c nL A Wd QX cells slots o σ (pc + 1) lv (.int (-x) :: st)) : gS p l e R s m args below meth c nL A Wd QX cells slots o σ pc lv (.int x :: st) := fun X hX H locs ls hw hS hl => lv_ineg h.1.1 h.1.2.1 hd (kk X hX H locs ls hw hS hl)
theorem g_ladd (h : gOk p s m args meth c cc nL own Ts) {x y : Int64} (hd : decode cc pc = .ok (.ladd, 1)) (kk : gS p l e R s m args below meth c nL A Wd QX cells slots o σ (pc + 1) lv (.long (x + y) :: st)) : gS p l e R s m args below meth c nL A Wd QX cells slots o σ pc lv (.long y :: .long x :: st) := fun X hX H locs ls hw hS hl => lv_ladd h.1.1 h.1.2.1 hd (kk X hX H locs ls hw hS hl)
theorem g_lsub (h : gOk p s m args meth c cc nL own Ts) {x y : Int64} (hd : decode cc pc = .ok (.lsub, 1)) (kk : gS p l e R s m args below meth c nL A Wd QX cells slots o σ (pc + 1) lv (.long (x - y) :: st)) : gS p l e R s m args below meth c nL A Wd QX cells slots o σ pc lv (.long y :: .long x :: st) := fun X hX H locs ls hw hS hl => lv_lsub h.1.1 h.1.2.1 hd (kk X hX H locs ls hw hS hl)
theorem g_lmul (h : gOk p s m args meth c cc nL own Ts) {x y : Int64} (hd : decode cc pc = .ok (.lmul, 1)) (kk : gS p l e R s m args below meth c nL A Wd QX cells slots o σ (pc + 1) lv (.long (x * y) :: st)) : gS p l e R s m args below meth c nL A Wd QX cells slots o σ pc lv (.long y :: .long x :: st) := fun X hX H locs ls hw hS hl => lv_lmul h.1.1 h.1.2.1 hd (kk X hX H locs ls hw hS hl)
theorem g_idiv (h : gOk p s m args meth c cc nL own Ts) {x y : Int32} (hd : decode cc pc = .ok (.idiv, 1)) (hne : ¬ y = 0) (kk : gS p l e R s m args below meth c nL A Wd QX cells slots o σ (pc + 1) lv (.int (x / y) :: st)) : gS p l e R s m args below meth c nL A Wd QX cells slots o σ pc lv (.int y :: .int x :: st) := fun X hX H locs ls hw hS hl => lv_idiv h.1.1 h.1.2.1 hd hne (kk X hX H locs ls hw hS hl)
theorem g_irem (h : gOk p s m args meth c cc nL own Ts) {x y : Int32} (hd : decode cc pc = .ok (.irem, 1)) (hne : ¬ y = 0) (kk : gS p l e R s m args below meth c nL A Wd QX cells slots o σ (pc + 1) lv (.int (x - x / y * y) :: st)) : gS p l e R s m args below meth c nL A Wd QX cells slots o σ pc lv (.int y :: .int x :: st) := fun X hX H locs ls hw hS hl => lv_irem h.1.1 h.1.2.1 hd hne (kk X hX H locs ls hw hS hl)
theorem g_ldiv (h : gOk p s m args meth c cc nL own Ts) {x y : Int64} (hd : decode cc pc = .ok (.ldiv, 1)) (hne : ¬ y = 0) (kk : gS p l e R s m args below meth c nL A Wd QX cells slots o σ (pc + 1) lv (.long (x / y) :: st)) : gS p l e R s m args below meth c nL A Wd QX cells slots o σ pc lv (.long y :: .long x :: st) := fun X hX H locs ls hw hS hl => lv_ldiv h.1.1 h.1.2.1 hd hne (kk X hX H locs ls hw hS hl)
theorem g_i2l (h : gOk p s m args meth c cc nL own Ts) {x : Int32} (hd : decode cc pc = .ok (.i2l, 1)) (kk : gS p l e R s m args below meth c nL A Wd QX cells slots o σ (pc + 1) lv (.long x.toInt64 :: st)) : gS p l e R s m args below meth c nL A Wd QX cells slots o σ pc lv (.int x :: st) := fun X hX H locs ls hw hS hl => lv_i2l h.1.1 h.1.2.1 hd rfl (kk X hX H locs ls hw hS hl)
theorem g_l2i (h : gOk p s m args meth c cc nL own Ts) {x : Int64} (hd : decode cc pc = .ok (.l2i, 1)) (kk : gS p l e R s m args below meth c nL A Wd QX cells slots o σ (pc + 1) lv (.int x.toInt32 :: st)) : gS p l e R s m args below meth c nL A Wd QX cells slots o σ pc lv (.long x :: st) := fun X hX H locs ls hw hS hl => lv_l2i h.1.1 h.1.2.1 hd rfl (kk X hX H locs ls hw hS hl)
theorem g_i2b (h : gOk p s m args meth c cc nL own Ts) {x : Int32} (hd : decode cc pc = .ok (.i2b, 1)) (kk : gS p l e R s m args below meth c nL A Wd QX cells slots o σ (pc + 1) lv (.int x.toInt8.toInt32 :: st)) : gS p l e R s m args below meth c nL A Wd QX cells slots o σ pc lv (.int x :: st) := fun X hX H locs ls hw hS hl => lv_i2b h.1.1 h.1.2.1 hd rfl (kk X hX H locs ls hw hS hl)
theorem g_i2c (h : gOk p s m args meth c cc nL own Ts) {x : Int32} (hd : decode cc pc = .ok (.i2c, 1)) (kk : gS p l e R s m args below meth c nL A Wd QX cells slots o σ (pc + 1) lv (.int (x.toUInt32 % 65536).toInt32 :: st)) : gS p l e R s m args below meth c nL A Wd QX cells slots o σ pc lv (.int x :: st) := fun X hX H locs ls hw hS hl => lv_i2c h.1.1 h.1.2.1 hd rfl (kk X hX H locs ls hw hS hl)
theorem g_dup (h : gOk p s m args meth c cc nL own Ts) {v : Value} (hd : decode cc pc = .ok (.dup, 1)) (h1 : v.category = 1) (kk : gS p l e R s m args below meth c nL A Wd QX cells slots o σ (pc + 1) lv (v :: v :: st)) : gS p l e R s m args below meth c nL A Wd QX cells slots o σ pc lv (v :: st) := fun X hX H locs ls hw hS hl => lv_dup h.1.1 h.1.2.1 hd h1 (kk X hX H locs ls hw hS hl)
theorem g_pop (h : gOk p s m args meth c cc nL own Ts) {v : Value} (hd : decode cc pc = .ok (.pop, 1)) (h1 : v.category = 1) (kk : gS p l e R s m args below meth c nL A Wd QX cells slots o σ (pc + 1) lv (st)) : gS p l e R s m args below meth c nL A Wd QX cells slots o σ pc lv (v :: st) := fun X hX H locs ls hw hS hl => lv_pop h.1.1 h.1.2.1 hd h1 (kk X hX H locs ls hw hS hl)
theorem g_dup_x1 (h : gOk p s m args meth c cc nL own Ts) {v v2 : Value} (hd : decode cc pc = .ok (.dup_x1, 1)) (h1 : v.category = 1) (h2 : v2.category = 1) (kk : gS p l e R s m args below meth c nL A Wd QX cells slots o σ (pc + 1) lv (v :: v2 :: v :: st)) : gS p l e R s m args below meth c nL A Wd QX cells slots o σ pc lv (v :: v2 :: st) := fun X hX H locs ls hw hS hl => lv_dup_x1 h.1.1 h.1.2.1 hd h1 h2 (kk X hX H locs ls hw hS hl)
theorem g_dup2 (h : gOk p s m args meth c cc nL own Ts) {v v2 : Value} (hd : decode cc pc = .ok (.dup2, 1)) (h1 : v.category = 1) (h2 : v2.category = 1) (kk : gS p l e R s m args below meth c nL A Wd QX cells slots o σ (pc + 1) lv (v :: v2 :: v :: v2 :: st)) : gS p l e R s m args below meth c nL A Wd QX cells slots o σ pc lv (v :: v2 :: st) := fun X hX H locs ls hw hS hl => lv_dup2_11 h.1.1 h.1.2.1 hd h1 h2 (kk X hX H locs ls hw hS hl)
theorem g_goto (h : gOk p s m args meth c cc nL own Ts) {off : Int} (tgt : Nat) (hd : decode cc pc = .ok (.goto off, 3)) (ht : (pc : Int) + off = (tgt : Int)) (kk : gS p l e R s m args below meth c nL A Wd QX cells slots o σ tgt lv st) : gS p l e R s m args below meth c nL A Wd QX cells slots o σ pc lv st := fun X hX H locs ls hw hS hl => lv_goto h.1.1 h.1.2.1 hd ht (kk X hX H locs ls hw hS hl)
theorem g_if_eq (h : gOk p s m args meth c cc nL own Ts) {x : Int32} {off : Int} (tgt : Nat) (hd : decode cc pc = .ok (.ifCond .eq off, 3)) (ht : (pc : Int) + off = (tgt : Int)) (k1 : gS p l e R s m args below meth c nL A Wd QX cells slots o1 σ tgt lv st) (k2 : gS p l e R s m args below meth c nL A Wd QX cells slots o2 σ (pc + 3) lv st) : gS p l e R s m args below meth c nL A Wd QX cells slots (if x = 0 then o1 else o2) σ pc lv (.int x :: st) := fun X hX H locs ls hw hS hl => lv_if_eq h.1.1 h.1.2.1 hd ht (fun q => k1 X (by rw [if_pos q] at hX; exact hX) H locs ls hw hS hl) (fun q => k2 X (by rw [if_neg q] at hX; exact hX) H locs ls hw hS hl)
theorem g_if_ne (h : gOk p s m args meth c cc nL own Ts) {x : Int32} {off : Int} (tgt : Nat) (hd : decode cc pc = .ok (.ifCond .ne off, 3)) (ht : (pc : Int) + off = (tgt : Int)) (k1 : gS p l e R s m args below meth c nL A Wd QX cells slots o1 σ tgt lv st) (k2 : gS p l e R s m args below meth c nL A Wd QX cells slots o2 σ (pc + 3) lv st) : gS p l e R s m args below meth c nL A Wd QX cells slots (if x = 0 then o2 else o1) σ pc lv (.int x :: st) := fun X hX H locs ls hw hS hl => lv_if_ne h.1.1 h.1.2.1 hd ht (fun q => k1 X (by rw [if_neg q] at hX; exact hX) H locs ls hw hS hl) (fun q => k2 X (by rw [if_pos q] at hX; exact hX) H locs ls hw hS hl)
theorem g_if_lt (h : gOk p s m args meth c cc nL own Ts) {x : Int32} {off : Int} (tgt : Nat) (hd : decode cc pc = .ok (.ifCond .lt off, 3)) (ht : (pc : Int) + off = (tgt : Int)) (k1 : gS p l e R s m args below meth c nL A Wd QX cells slots o1 σ tgt lv st) (k2 : gS p l e R s m args below meth c nL A Wd QX cells slots o2 σ (pc + 3) lv st) : gS p l e R s m args below meth c nL A Wd QX cells slots (if x < 0 then o1 else o2) σ pc lv (.int x :: st) := fun X hX H locs ls hw hS hl => lv_if_lt h.1.1 h.1.2.1 hd ht (fun q => k1 X (by rw [if_pos q] at hX; exact hX) H locs ls hw hS hl) (fun q => k2 X (by rw [if_neg q] at hX; exact hX) H locs ls hw hS hl)
theorem g_if_ge (h : gOk p s m args meth c cc nL own Ts) {x : Int32} {off : Int} (tgt : Nat) (hd : decode cc pc = .ok (.ifCond .ge off, 3)) (ht : (pc : Int) + off = (tgt : Int)) (k1 : gS p l e R s m args below meth c nL A Wd QX cells slots o1 σ tgt lv st) (k2 : gS p l e R s m args below meth c nL A Wd QX cells slots o2 σ (pc + 3) lv st) : gS p l e R s m args below meth c nL A Wd QX cells slots (if 0 ≤ x then o1 else o2) σ pc lv (.int x :: st) := fun X hX H locs ls hw hS hl => lv_if_ge h.1.1 h.1.2.1 hd ht (fun q => k1 X (by rw [if_pos q] at hX; exact hX) H locs ls hw hS hl) (fun q => k2 X (by rw [if_neg q] at hX; exact hX) H locs ls hw hS hl)
theorem g_if_gt (h : gOk p s m args meth c cc nL own Ts) {x : Int32} {off : Int} (tgt : Nat) (hd : decode cc pc = .ok (.ifCond .gt off, 3)) (ht : (pc : Int) + off = (tgt : Int)) (k1 : gS p l e R s m args below meth c nL A Wd QX cells slots o1 σ tgt lv st) (k2 : gS p l e R s m args below meth c nL A Wd QX cells slots o2 σ (pc + 3) lv st) : gS p l e R s m args below meth c nL A Wd QX cells slots (if 0 < x then o1 else o2) σ pc lv (.int x :: st) := fun X hX H locs ls hw hS hl => lv_if_gt h.1.1 h.1.2.1 hd ht (fun q => k1 X (by rw [if_pos q] at hX; exact hX) H locs ls hw hS hl) (fun q => k2 X (by rw [if_neg q] at hX; exact hX) H locs ls hw hS hl)
theorem g_if_le (h : gOk p s m args meth c cc nL own Ts) {x : Int32} {off : Int} (tgt : Nat) (hd : decode cc pc = .ok (.ifCond .le off, 3)) (ht : (pc : Int) + off = (tgt : Int)) (k1 : gS p l e R s m args below meth c nL A Wd QX cells slots o1 σ tgt lv st) (k2 : gS p l e R s m args below meth c nL A Wd QX cells slots o2 σ (pc + 3) lv st) : gS p l e R s m args below meth c nL A Wd QX cells slots (if x ≤ 0 then o1 else o2) σ pc lv (.int x :: st) := fun X hX H locs ls hw hS hl => lv_if_le h.1.1 h.1.2.1 hd ht (fun q => k1 X (by rw [if_pos q] at hX; exact hX) H locs ls hw hS hl) (fun q => k2 X (by rw [if_neg q] at hX; exact hX) H locs ls hw hS hl)
theorem g_icmp_eq (h : gOk p s m args meth c cc nL own Ts) {x y : Int32} {off : Int} (tgt : Nat) (hd : decode cc pc = .ok (.if_icmp .eq off, 3)) (ht : (pc : Int) + off = (tgt : Int)) (k1 : gS p l e R s m args below meth c nL A Wd QX cells slots o1 σ tgt lv st) (k2 : gS p l e R s m args below meth c nL A Wd QX cells slots o2 σ (pc + 3) lv st) : gS p l e R s m args below meth c nL A Wd QX cells slots (if x = y then o1 else o2) σ pc lv (.int y :: .int x :: st) := fun X hX H locs ls hw hS hl => lv_icmp_eq h.1.1 h.1.2.1 hd ht (fun q => k1 X (by rw [if_pos q] at hX; exact hX) H locs ls hw hS hl) (fun q => k2 X (by rw [if_neg q] at hX; exact hX) H locs ls hw hS hl)
theorem g_icmp_ne (h : gOk p s m args meth c cc nL own Ts) {x y : Int32} {off : Int} (tgt : Nat) (hd : decode cc pc = .ok (.if_icmp .ne off, 3)) (ht : (pc : Int) + off = (tgt : Int)) (k1 : gS p l e R s m args below meth c nL A Wd QX cells slots o1 σ tgt lv st) (k2 : gS p l e R s m args below meth c nL A Wd QX cells slots o2 σ (pc + 3) lv st) : gS p l e R s m args below meth c nL A Wd QX cells slots (if x = y then o2 else o1) σ pc lv (.int y :: .int x :: st) := fun X hX H locs ls hw hS hl => lv_icmp_ne h.1.1 h.1.2.1 hd ht (fun q => k1 X (by rw [if_neg q] at hX; exact hX) H locs ls hw hS hl) (fun q => k2 X (by rw [if_pos q] at hX; exact hX) H locs ls hw hS hl)
theorem g_icmp_lt (h : gOk p s m args meth c cc nL own Ts) {x y : Int32} {off : Int} (tgt : Nat) (hd : decode cc pc = .ok (.if_icmp .lt off, 3)) (ht : (pc : Int) + off = (tgt : Int)) (k1 : gS p l e R s m args below meth c nL A Wd QX cells slots o1 σ tgt lv st) (k2 : gS p l e R s m args below meth c nL A Wd QX cells slots o2 σ (pc + 3) lv st) : gS p l e R s m args below meth c nL A Wd QX cells slots (if x < y then o1 else o2) σ pc lv (.int y :: .int x :: st) := fun X hX H locs ls hw hS hl => lv_icmp_lt h.1.1 h.1.2.1 hd ht (fun q => k1 X (by rw [if_pos q] at hX; exact hX) H locs ls hw hS hl) (fun q => k2 X (by rw [if_neg q] at hX; exact hX) H locs ls hw hS hl)
theorem g_icmp_ge (h : gOk p s m args meth c cc nL own Ts) {x y : Int32} {off : Int} (tgt : Nat) (hd : decode cc pc = .ok (.if_icmp .ge off, 3)) (ht : (pc : Int) + off = (tgt : Int)) (k1 : gS p l e R s m args below meth c nL A Wd QX cells slots o1 σ tgt lv st) (k2 : gS p l e R s m args below meth c nL A Wd QX cells slots o2 σ (pc + 3) lv st) : gS p l e R s m args below meth c nL A Wd QX cells slots (if y ≤ x then o1 else o2) σ pc lv (.int y :: .int x :: st) := fun X hX H locs ls hw hS hl => lv_icmp_ge h.1.1 h.1.2.1 hd ht (fun q => k1 X (by rw [if_pos q] at hX; exact hX) H locs ls hw hS hl) (fun q => k2 X (by rw [if_neg q] at hX; exact hX) H locs ls hw hS hl)
theorem g_icmp_gt (h : gOk p s m args meth c cc nL own Ts) {x y : Int32} {off : Int} (tgt : Nat) (hd : decode cc pc = .ok (.if_icmp .gt off, 3)) (ht : (pc : Int) + off = (tgt : Int)) (k1 : gS p l e R s m args below meth c nL A Wd QX cells slots o1 σ tgt lv st) (k2 : gS p l e R s m args below meth c nL A Wd QX cells slots o2 σ (pc + 3) lv st) : gS p l e R s m args below meth c nL A Wd QX cells slots (if y < x then o1 else o2) σ pc lv (.int y :: .int x :: st) := fun X hX H locs ls hw hS hl => lv_icmp_gt h.1.1 h.1.2.1 hd ht (fun q => k1 X (by rw [if_pos q] at hX; exact hX) H locs ls hw hS hl) (fun q => k2 X (by rw [if_neg q] at hX; exact hX) H locs ls hw hS hl)
theorem g_icmp_le (h : gOk p s m args meth c cc nL own Ts) {x y : Int32} {off : Int} (tgt : Nat) (hd : decode cc pc = .ok (.if_icmp .le off, 3)) (ht : (pc : Int) + off = (tgt : Int)) (k1 : gS p l e R s m args below meth c nL A Wd QX cells slots o1 σ tgt lv st) (k2 : gS p l e R s m args below meth c nL A Wd QX cells slots o2 σ (pc + 3) lv st) : gS p l e R s m args below meth c nL A Wd QX cells slots (if x ≤ y then o1 else o2) σ pc lv (.int y :: .int x :: st) := fun X hX H locs ls hw hS hl => lv_icmp_le h.1.1 h.1.2.1 hd ht (fun q => k1 X (by rw [if_pos q] at hX; exact hX) H locs ls hw hS hl) (fun q => k2 X (by rw [if_neg q] at hX; exact hX) H locs ls hw hS hl)
theorem g_guard {b : Bool} (kk : b = true → gS p l e R s m args below meth c nL A Wd QX cells slots o σ pc lv st) : gS p l e R s m args below meth c nL A Wd QX cells slots (if b = true then o else none) σ pc lv st := by
  intro X hX
  by_cases q : b = true
  · rw [if_pos q] at hX; exact kk q X hX
  · rw [if_neg q] at hX; cases hX
theorem g_nz {y : Int32} (kk : ¬ y = 0 → gS p l e R s m args below meth c nL A Wd QX cells slots o σ pc lv st) : gS p l e R s m args below meth c nL A Wd QX cells slots (if y = 0 then none else o) σ pc lv st := by
  intro X hX
  by_cases q : y = 0
  · rw [if_pos q] at hX; cases hX
  · rw [if_neg q] at hX; exact kk q X hX
theorem g_none : gS p l e R s m args below meth c nL A Wd QX cells slots none σ pc lv st := fun X hX => by cases hX
theorem g_bnd {v : S} {k : S → Option Rt} (kk : ∀ τ : S, gS p l e R s m args below meth c nL A Wd QX cells slots (k τ) τ pc lv st) : gS p l e R s m args below meth c nL A Wd QX cells slots (bnd v k) v pc lv st := kk v
theorem g_bndi {v : Int32} {k : Int32 → Option Rt} (kk : ∀ x : Int32, gS p l e R s m args below meth c nL A Wd QX cells slots (k x) σ pc lv (.int x :: st)) : gS p l e R s m args below meth c nL A Wd QX cells slots (bnd v k) σ pc lv (.int v :: st) := kk v
theorem g_eq (e2 : o = o1) (kk : gS p l e R s m args below meth c nL A Wd QX cells slots o1 σ pc lv st) : gS p l e R s m args below meth c nL A Wd QX cells slots o σ pc lv st := e2 ▸ kk
theorem g_case {x v : Int32} (k1 : x = v → gS p l e R s m args below meth c nL A Wd QX cells slots o1 σ pc lv (.int x :: st)) (k2 : ¬ x = v → gS p l e R s m args below meth c nL A Wd QX cells slots o2 σ pc lv (.int x :: st)) : gS p l e R s m args below meth c nL A Wd QX cells slots (if x = v then o1 else o2) σ pc lv (.int x :: st) := by
  intro X hX
  by_cases q : x = v
  · rw [if_pos q] at hX; exact k1 q X hX
  · rw [if_neg q] at hX; exact k2 q X hX
theorem g_tabIn (h : gOk p s m args meth c cc nL own Ts) {dflt lo hi : Int} {offs : Array Int} {len : Nat} {x : Int32} {off : Int} (tgt : Nat) (hd : decode cc pc = .ok (.tableswitch dflt lo hi offs, len)) (h1 : ¬ x.toInt < lo) (h2 : ¬ hi < x.toInt) (ho : offs[(x.toInt - lo).toNat]? = some off) (ht : (pc : Int) + off = (tgt : Int)) (kk : gS p l e R s m args below meth c nL A Wd QX cells slots o σ tgt lv st) : gS p l e R s m args below meth c nL A Wd QX cells slots o σ pc lv (.int x :: st) := fun X hX H locs ls hw hS hl => lv_tableIn h.1.1 h.1.2.1 hd h1 h2 ho ht (kk X hX H locs ls hw hS hl)
theorem g_tabOut (h : gOk p s m args meth c cc nL own Ts) {dflt lo hi : Int} {offs : Array Int} {len : Nat} {x : Int32} (tgt : Nat) (hd : decode cc pc = .ok (.tableswitch dflt lo hi offs, len)) (h1 : x.toInt < lo ∨ hi < x.toInt) (ht : (pc : Int) + dflt = (tgt : Int)) (kk : gS p l e R s m args below meth c nL A Wd QX cells slots o σ tgt lv st) : gS p l e R s m args below meth c nL A Wd QX cells slots o σ pc lv (.int x :: st) := fun X hX H locs ls hw hS hl => lv_tableOut h.1.1 h.1.2.1 hd h1 ht (kk X hX H locs ls hw hS hl)
theorem g_mmax (h : gOk p s m args meth c cc nL own Ts) {x y : Int32} {index : Nat} (hw1 : Cond.methodLink own index Lib.Math.max.name ∈ Ts) (hw2 : Cond.static Lib.Math.max.name ∈ Ts) (hw3 : Cond.initialized "java/lang/Math" ∈ Ts) (hw4 : Cond.code Lib.Math.max.name Lib.Math.max.code 2 (some .int) ∈ Ts) (hf : 1 ≤ R.frames) (hlo : (st.map fun v => v.category).sum + 13 ≤ R.locals) (hc : cells ≤ R.cells) (hs : slots ≤ R.slots) (hd : decode cc pc = .ok (.invokestatic index, 3)) (kk : gS p l e R s m args below meth c nL A Wd QX cells slots o σ (pc + 3) lv (.int (if x < y then y else x) :: st)) : gS p l e R s m args below meth c nL A Wd QX cells slots o σ pc lv (.int y :: .int x :: st) := fun X hX H locs ls hw hS hl => va_mmax h.1.1 h.1.2.1 (h.1.2.2.1.trans hl.1.symm) h.1.2.2.2.1 (h.1.2.2.2.2 _ hw1) (h.1.2.2.2.2 _ hw2) (h.1.2.2.2.2 _ hw3) (h.1.2.2.2.2 _ hw4) hf hlo hc hs hd (kk X hX H locs ls hw hS hl)
theorem g_mmin (h : gOk p s m args meth c cc nL own Ts) {x y : Int32} {index : Nat} (hw1 : Cond.methodLink own index Lib.Math.min.name ∈ Ts) (hw2 : Cond.static Lib.Math.min.name ∈ Ts) (hw3 : Cond.initialized "java/lang/Math" ∈ Ts) (hw4 : Cond.code Lib.Math.min.name Lib.Math.min.code 2 (some .int) ∈ Ts) (hf : 1 ≤ R.frames) (hlo : (st.map fun v => v.category).sum + 13 ≤ R.locals) (hc : cells ≤ R.cells) (hs : slots ≤ R.slots) (hd : decode cc pc = .ok (.invokestatic index, 3)) (kk : gS p l e R s m args below meth c nL A Wd QX cells slots o σ (pc + 3) lv (.int (if y < x then y else x) :: st)) : gS p l e R s m args below meth c nL A Wd QX cells slots o σ pc lv (.int y :: .int x :: st) := fun X hX H locs ls hw hS hl => va_mmin h.1.1 h.1.2.1 (h.1.2.2.1.trans hl.1.symm) h.1.2.2.2.1 (h.1.2.2.2.2 _ hw1) (h.1.2.2.2.2 _ hw2) (h.1.2.2.2.2 _ hw3) (h.1.2.2.2.2 _ hw4) hf hlo hc hs hd (kk X hX H locs ls hw hS hl)
end GS
section GR
variable {p : Program} {l : Launch} {e : Env} {R : Room} {s : State} {m : MethodId} {args : Array Value} {below : List Frame} {meth : Method} {c : Code}
variable {S : Type} {cc : ByteArray} {nL : Nat} {own : String} {Ts : List Cond} {A : Nat → Prop} {Wd : S → State → Heap → Prop} {cells slots mc ms : Nat} {σ : S} {pc : Nat} {lv : List (Nat × Value)}
theorem g_iret (h : gOk p s m args meth c cc nL own Ts) (hmv : gMv Wd) (hr : meth.sig.returnType = some .int) (hc : cells ≤ mc) (hs : slots ≤ ms) {x : Int32} (hd : decode cc pc = .ok (.ireturn, 1)) : gS p l e R s m args below meth c nL A Wd (fun X => MQ below (gPi Wd A X) args s mc ms A) cells slots (some (x, σ)) σ pc lv [.int x] := by
  intro X hX H locs ls hw hS hl
  cases hX
  exact W.widen hc hs (W.iret (v := x) h.1.1 h.1.2.1 hr (fun t ht hW => ⟨⟨x, σ, rfl, rfl, by show Wd σ t t.heap; rw [ht]; exact hmv _ _ _ _ hW.alike hw⟩, hS.F ht⟩) hS.2.2 hd h.2)
theorem g_zret (h : gOk p s m args meth c cc nL own Ts) (hmv : gMv Wd) (hr : meth.sig.returnType = some .boolean) (hc : cells ≤ mc) (hs : slots ≤ ms) {x : Int32} (hz : okZ x = true) (hd : decode cc pc = .ok (.ireturn, 1)) : gS p l e R s m args below meth c nL A Wd (fun X => MQ below (gPi Wd A X) args s mc ms A) cells slots (some (x, σ)) σ pc lv [.int x] := by
  intro X hX H locs ls hw hS hl
  cases hX
  exact W.widen hc hs (W.zret (v := x) h.1.1 h.1.2.1 hr (okZ_nar hz) (fun t ht hW => ⟨⟨x, σ, rfl, rfl, by show Wd σ t t.heap; rw [ht]; exact hmv _ _ _ _ hW.alike hw⟩, hS.F ht⟩) hS.2.2 hd h.2)
theorem g_vret (h : gOk p s m args meth c cc nL own Ts) (hmv : gMv Wd) (hr : meth.sig.returnType = none) (hc : cells ≤ mc) (hs : slots ≤ ms) (hd : decode cc pc = .ok (.return_, 1)) : gS p l e R s m args below meth c nL A Wd (fun X => MQ below (gPv Wd A X) args s mc ms A) cells slots (some σ) σ pc lv [] := by
  intro X hX H locs ls hw hS hl
  cases hX
  exact W.widen hc hs (W.vret h.1.1 h.1.2.1 hr (fun t ht hW => ⟨⟨σ, rfl, rfl, by show Wd σ t t.heap; rw [ht]; exact hmv _ _ _ _ hW.alike hw⟩, hS.F ht⟩) hS.2.2 hd h.2)
end GR
section GE
variable {S : Type} {A : Nat → Prop} {Ke : State → Prop} {Wd : S → State → Heap → Prop} {σ : S}
theorem g_meti {l : Launch} {y : MethodName} {rm : Room} {cc : ByteArray} {maxL : Nat} {ret : Option FieldType} {av : List Value} {o : Option (Int32 × S)} (hy : plainName y.cls = true) (hav : (lg_sl av).length ≤ maxL)
    (body : ∀ (p : Program) (e : Env) (s : State) (m : MethodId) (below : List Frame) (meth : Method) (c : Code), gOk p s m av.toArray meth c cc maxL y.cls tb → meth.sig.returnType = ret → Ke s → gS p l e rm s m av.toArray below meth c maxL A Wd (fun X => MQ below (gPi Wd A X) av.toArray s rm.cells rm.slots A) 0 0 o σ 0 (lv_args 0 av) []) : gCi l y cc maxL ret rm Ke Wd A av σ o := by
  intro X hX
  refine Met.ofW (cc := cc) (maxL := maxL) (ret := ret) hy rfl ?_
  intro p e s m args below meth c s₁ B hml hv
  obtain ⟨rfl, hW0, hK0⟩ := hv
  have hl := lv_entry av (n := maxL) hav
  rw [lg_entry_eq]
  exact body p e s m below meth c ⟨⟨B.exec, B.bytes, hml, findClass_of_methodNamed B.named, fun w hw => atoms_spec (ws := wt y cc maxL ret) B.pre w (List.mem_cons_of_mem _ hw)⟩, B.notSynchronized⟩ B.returns hK0 X hX s.heap [] _ hW0 va_S.rf hl
theorem g_metv {l : Launch} {y : MethodName} {rm : Room} {cc : ByteArray} {maxL : Nat} {ret : Option FieldType} {av : List Value} {o : Option S} (hy : plainName y.cls = true) (hav : (lg_sl av).length ≤ maxL)
    (body : ∀ (p : Program) (e : Env) (s : State) (m : MethodId) (below : List Frame) (meth : Method) (c : Code), gOk p s m av.toArray meth c cc maxL y.cls tb → meth.sig.returnType = ret → Ke s → gS p l e rm s m av.toArray below meth c maxL A Wd (fun X => MQ below (gPv Wd A X) av.toArray s rm.cells rm.slots A) 0 0 o σ 0 (lv_args 0 av) []) : gCv l y cc maxL ret rm Ke Wd A av σ o := by
  intro X hX
  refine Met.ofW (cc := cc) (maxL := maxL) (ret := ret) hy rfl ?_
  intro p e s m args below meth c s₁ B hml hv
  obtain ⟨rfl, hW0, hK0⟩ := hv
  have hl := lv_entry av (n := maxL) hav
  rw [lg_entry_eq]
  exact body p e s m below meth c ⟨⟨B.exec, B.bytes, hml, findClass_of_methodNamed B.named, fun w hw => atoms_spec (ws := wt y cc maxL ret) B.pre w (List.mem_cons_of_mem _ hw)⟩, B.notSynchronized⟩ B.returns hK0 X hX s.heap [] _ hW0 va_S.rf hl
end GE
section GC
def yOkV (y : MethodName) (bytes : ByteArray) (maxL : Nat) (ret : Option FieldType) (C : String) (n : Nat) : Prop := Cond.code y bytes maxL ret ∈ tb ∧ Cond.initialized y.cls ∈ tb ∧ Cond.instanceMethod y ∈ tb ∧ Cond.selects C y y ∈ tb ∧ y.cls ≠ "java/lang/invoke/MethodHandle" ∧ y.cls ≠ "java/lang/invoke/VarHandle" ∧ (parseMethodDescriptor y.desc).map (fun d => d.parameters.length) = some n
def yOkS (y : MethodName) (bytes : ByteArray) (maxL : Nat) (ret : Option FieldType) (n : Nat) : Prop := Cond.code y bytes maxL ret ∈ tb ∧ Cond.initialized y.cls ∈ tb ∧ Cond.static y ∈ tb ∧ y.cls ≠ "java/lang/invoke/MethodHandle" ∧ y.cls ≠ "java/lang/invoke/VarHandle" ∧ (parseMethodDescriptor y.desc).map (fun d => d.parameters.length) = some n
def yRm (rm R : Room) (maxL : Nat) : Prop := rm.frames + 1 ≤ R.frames ∧ 8 + (maxL + 11) + rm.locals ≤ R.locals
variable {p : Program} {l : Launch} {e : Env} {R : Room} {s : State} {m : MethodId} {args : Array Value} {below : List Frame} {meth : Method} {c : Code}
variable {S Rt : Type} {cc : ByteArray} {nL : Nat} {own : String} {A : Nat → Prop} {Ke : State → Prop} {Wd : S → State → Heap → Prop} {QX : Rt → State → Prop} {cells slots : Nat} {σ : S} {pc : Nat} {lv : List (Nat × Value)} {st : List Value}
variable {y : MethodName} {bytes : ByteArray} {maxL n index : Nat} {ret : Option FieldType} {rm : Room}
theorem cwT {C : String} (ht : ∀ w ∈ tb, w.before args s = true) (hy : yOkV y bytes maxL ret C n) (hl : Cond.methodLink own index y ∈ tb) (hR : yRm rm R maxL) : CallW R s args own C index y bytes maxL ret (wt y bytes maxL ret) rm rm.cells rm.slots n := ⟨callB_of n ht (tb_in hy.1) rfl rfl rfl (ht _ hy.2.1) (ht _ hl) hy.2.2.2.2 hR, ht _ hy.2.2.1, ht _ hy.2.2.2.1⟩
theorem cwTS (ht : ∀ w ∈ tb, w.before args s = true) (hy : yOkS y bytes maxL ret n) (hl : Cond.methodLink own index y ∈ tb) (hR : yRm rm R maxL) : CallB R s args own index y bytes maxL ret (wt y bytes maxL ret) rm rm.cells rm.slots n ∧ (Cond.static y).before args s = true := ⟨callB_of n ht (tb_in hy.1) rfl rfl rfl (ht _ hy.2.1) (ht _ hl) hy.2.2.2 hR, ht _ hy.2.2.1⟩
theorem g_callVi (h : gOk p s m args meth c cc nL own tb) (hmv : gMv Wd) (hkw : gKw Ke) (hKs : Ke s) {C : String} {b : Nat} (As : List Value) {stk : List Value} {f : Option (Int32 × S)} {k : Int32 → S → Option Rt} (hM : gCi l y bytes maxL ret rm Ke Wd A (.ref b :: As) σ f) (hy : yOkV y bytes maxL ret C n) (hml : Cond.methodLink own index y ∈ tb) (hR : yRm rm R maxL) (hrc : ∀ H, Wd σ s H → ∃ cellB : Cell, H[b]? = some cellB ∧ cellB.vm.isStatics = false ∧ s.vm.findClass C = some cellB.cls) (hn : As.length = n) (hst : stk = As.reverse ++ .ref b :: st) (hro : (st.map fun v => v.category).sum ≤ 8) (hd : decode cc pc = .ok (.invokevirtual index, 3)) (hf : cells + rm.cells ≤ R.cells ∧ slots + rm.slots ≤ R.slots) (kk : ∀ r σ', gS p l e R s m args below meth c nL A Wd QX (cells + rm.cells) (slots + rm.slots) (k r σ') σ' (pc + 3) lv (.int r :: st)) : gS p l e R s m args below meth c nL A Wd QX cells slots (bi f k) σ pc lv stk := by
  intro X hX H locs ls hw hS hl
  subst hst
  cases hf0 : f with
  | none => rw [hf0] at hX; cases hX
  | some u0 =>
  rw [hf0] at hX
  refine va_calli (va_runV (As := As) (rest := st) h.1 (hM u0 hf0) (cwT h.1.2.2.2.2 hy hml hR) ⟨fun a U g mk q => ⟨q.1, hmv _ U (U.calling g mk a) _ (Vm.Alike.refl U.vm) q.2.1, hkw U (U.calling g mk a) (State.WarmedH.refl U) q.2.2⟩, hrc H hw, fun U hU hW => ⟨rfl, by rw [hU]; exact hmv _ _ _ _ hW.alike hw, hkw _ _ hW hKs⟩⟩ rfl hn hl.1 rfl (lv_room hro) hd hf) hS (fun q _ z => z) (fun q z => z) (fun r u t H1 locs1 ht hvm hp hB hz hk hS1 => ?_)
  subst hp
  exact kk r u X hX H1 locs1 ls (by rw [← ht]; exact hmv _ _ _ _ hvm.symm hB) hS1 hl
theorem g_callVv (h : gOk p s m args meth c cc nL own tb) (hmv : gMv Wd) (hkw : gKw Ke) (hKs : Ke s) {C : String} {b : Nat} (As : List Value) {stk : List Value} {f : Option (S)} {k : S → Option Rt} (hM : gCv l y bytes maxL ret rm Ke Wd A (.ref b :: As) σ f) (hy : yOkV y bytes maxL ret C n) (hml : Cond.methodLink own index y ∈ tb) (hR : yRm rm R maxL) (hrc : ∀ H, Wd σ s H → ∃ cellB : Cell, H[b]? = some cellB ∧ cellB.vm.isStatics = false ∧ s.vm.findClass C = some cellB.cls) (hn : As.length = n) (hst : stk = As.reverse ++ .ref b :: st) (hro : (st.map fun v => v.category).sum ≤ 8) (hd : decode cc pc = .ok (.invokevirtual index, 3)) (hf : cells + rm.cells ≤ R.cells ∧ slots + rm.slots ≤ R.slots) (kk : ∀ σ', gS p l e R s m args below meth c nL A Wd QX (cells + rm.cells) (slots + rm.slots) (k σ') σ' (pc + 3) lv (st)) : gS p l e R s m args below meth c nL A Wd QX cells slots (f.bind k) σ pc lv stk := by
  intro X hX H locs ls hw hS hl
  subst hst
  cases hf0 : f with
  | none => rw [hf0] at hX; cases hX
  | some u0 =>
  rw [hf0] at hX
  refine va_callv (va_runV (As := As) (rest := st) h.1 (hM u0 hf0) (cwT h.1.2.2.2.2 hy hml hR) ⟨fun a U g mk q => ⟨q.1, hmv _ U (U.calling g mk a) _ (Vm.Alike.refl U.vm) q.2.1, hkw U (U.calling g mk a) (State.WarmedH.refl U) q.2.2⟩, hrc H hw, fun U hU hW => ⟨rfl, by rw [hU]; exact hmv _ _ _ _ hW.alike hw, hkw _ _ hW hKs⟩⟩ rfl hn hl.1 rfl (lv_room hro) hd hf) hS (fun q _ z => z) (fun q z => z) (fun u t H1 locs1 ht hvm hp hB hz hk hS1 => ?_)
  subst hp
  exact kk u X hX H1 locs1 ls (by rw [← ht]; exact hmv _ _ _ _ hvm.symm hB) hS1 hl
theorem g_callSi (h : gOk p s m args meth c cc nL own tb) (hmv : gMv Wd) (hkw : gKw Ke) (hKs : Ke s) (As : List Value) {stk : List Value} {f : Option (Int32 × S)} {k : Int32 → S → Option Rt} (hM : gCi l y bytes maxL ret rm Ke Wd A As σ f) (hy : yOkS y bytes maxL ret n) (hml : Cond.methodLink own index y ∈ tb) (hR : yRm rm R maxL) (hn : As.length = n) (hst : stk = As.reverse ++ st) (hro : (st.map fun v => v.category).sum ≤ 8) (hd : decode cc pc = .ok (.invokestatic index, 3)) (hf : cells + rm.cells ≤ R.cells ∧ slots + rm.slots ≤ R.slots) (kk : ∀ r σ', gS p l e R s m args below meth c nL A Wd QX (cells + rm.cells) (slots + rm.slots) (k r σ') σ' (pc + 3) lv (.int r :: st)) : gS p l e R s m args below meth c nL A Wd QX cells slots (bi f k) σ pc lv stk := by
  intro X hX H locs ls hw hS hl
  subst hst
  cases hf0 : f with
  | none => rw [hf0] at hX; cases hX
  | some u0 =>
  rw [hf0] at hX
  refine va_calli (va_runS (As := As) (rest := st) h.1 (hM u0 hf0) (cwTS h.1.2.2.2.2 hy hml hR) ⟨fun a U g mk q => ⟨q.1, hmv _ U (U.calling g mk a) _ (Vm.Alike.refl U.vm) q.2.1, hkw U (U.calling g mk a) (State.WarmedH.refl U) q.2.2⟩, fun U hU hW => ⟨rfl, by rw [hU]; exact hmv _ _ _ _ hW.alike hw, hkw _ _ hW hKs⟩⟩ rfl hn hl.1 rfl (lv_room hro) hd hf) hS (fun q _ z => z) (fun q z => z) (fun r u t H1 locs1 ht hvm hp hB hz hk hS1 => ?_)
  subst hp
  exact kk r u X hX H1 locs1 ls (by rw [← ht]; exact hmv _ _ _ _ hvm.symm hB) hS1 hl
theorem g_callSv (h : gOk p s m args meth c cc nL own tb) (hmv : gMv Wd) (hkw : gKw Ke) (hKs : Ke s) (As : List Value) {stk : List Value} {f : Option (S)} {k : S → Option Rt} (hM : gCv l y bytes maxL ret rm Ke Wd A As σ f) (hy : yOkS y bytes maxL ret n) (hml : Cond.methodLink own index y ∈ tb) (hR : yRm rm R maxL) (hn : As.length = n) (hst : stk = As.reverse ++ st) (hro : (st.map fun v => v.category).sum ≤ 8) (hd : decode cc pc = .ok (.invokestatic index, 3)) (hf : cells + rm.cells ≤ R.cells ∧ slots + rm.slots ≤ R.slots) (kk : ∀ σ', gS p l e R s m args below meth c nL A Wd QX (cells + rm.cells) (slots + rm.slots) (k σ') σ' (pc + 3) lv (st)) : gS p l e R s m args below meth c nL A Wd QX cells slots (f.bind k) σ pc lv stk := by
  intro X hX H locs ls hw hS hl
  subst hst
  cases hf0 : f with
  | none => rw [hf0] at hX; cases hX
  | some u0 =>
  rw [hf0] at hX
  refine va_callv (va_runS (As := As) (rest := st) h.1 (hM u0 hf0) (cwTS h.1.2.2.2.2 hy hml hR) ⟨fun a U g mk q => ⟨q.1, hmv _ U (U.calling g mk a) _ (Vm.Alike.refl U.vm) q.2.1, hkw U (U.calling g mk a) (State.WarmedH.refl U) q.2.2⟩, fun U hU hW => ⟨rfl, by rw [hU]; exact hmv _ _ _ _ hW.alike hw, hkw _ _ hW hKs⟩⟩ rfl hn hl.1 rfl (lv_room hro) hd hf) hS (fun q _ z => z) (fun q z => z) (fun u t H1 locs1 ht hvm hp hB hz hk hS1 => ?_)
  subst hp
  exact kk u X hX H1 locs1 ls (by rw [← ht]; exact hmv _ _ _ _ hvm.symm hB) hS1 hl
theorem g_callV0i (h : gOk p s m args meth c cc nL own tb) (hmv : gMv Wd) (hkw : gKw Ke) (hKs : Ke s) {C : String} {b : Nat} (As : List Value) {stk : List Value} {f : Option (Int32 × S)} {k : Int32 → S → Option Rt} (hM : gCi l y bytes maxL ret rm Ke Wd A (.ref b :: As) σ f) (hy : yOkV y bytes maxL ret C n) (hml : Cond.methodLink own index y ∈ tb) (hR : yRm rm R maxL) (hrc : ∀ H, Wd σ s H → ∃ cellB : Cell, H[b]? = some cellB ∧ cellB.vm.isStatics = false ∧ s.vm.findClass C = some cellB.cls) (hn : As.length = n) (hst : stk = As.reverse ++ .ref b :: st) (h0c : rm.cells = 0) (h0s : rm.slots = 0) (hro : (st.map fun v => v.category).sum ≤ 8) (hd : decode cc pc = .ok (.invokevirtual index, 3)) (hf : cells ≤ R.cells ∧ slots ≤ R.slots) (kk : ∀ r σ', gS p l e R s m args below meth c nL A Wd QX cells slots (k r σ') σ' (pc + 3) lv (.int r :: st)) : gS p l e R s m args below meth c nL A Wd QX cells slots (bi f k) σ pc lv stk := by
  refine g_callVi h hmv hkw hKs As hM hy hml hR hrc hn hst hro hd ⟨by rw [h0c]; exact hf.1, by rw [h0s]; exact hf.2⟩ ?_
  rw [h0c, h0s]
  exact kk
theorem g_callV0v (h : gOk p s m args meth c cc nL own tb) (hmv : gMv Wd) (hkw : gKw Ke) (hKs : Ke s) {C : String} {b : Nat} (As : List Value) {stk : List Value} {f : Option (S)} {k : S → Option Rt} (hM : gCv l y bytes maxL ret rm Ke Wd A (.ref b :: As) σ f) (hy : yOkV y bytes maxL ret C n) (hml : Cond.methodLink own index y ∈ tb) (hR : yRm rm R maxL) (hrc : ∀ H, Wd σ s H → ∃ cellB : Cell, H[b]? = some cellB ∧ cellB.vm.isStatics = false ∧ s.vm.findClass C = some cellB.cls) (hn : As.length = n) (hst : stk = As.reverse ++ .ref b :: st) (h0c : rm.cells = 0) (h0s : rm.slots = 0) (hro : (st.map fun v => v.category).sum ≤ 8) (hd : decode cc pc = .ok (.invokevirtual index, 3)) (hf : cells ≤ R.cells ∧ slots ≤ R.slots) (kk : ∀ σ', gS p l e R s m args below meth c nL A Wd QX cells slots (k σ') σ' (pc + 3) lv (st)) : gS p l e R s m args below meth c nL A Wd QX cells slots (f.bind k) σ pc lv stk := by
  refine g_callVv h hmv hkw hKs As hM hy hml hR hrc hn hst hro hd ⟨by rw [h0c]; exact hf.1, by rw [h0s]; exact hf.2⟩ ?_
  rw [h0c, h0s]
  exact kk
theorem g_callS0i (h : gOk p s m args meth c cc nL own tb) (hmv : gMv Wd) (hkw : gKw Ke) (hKs : Ke s) (As : List Value) {stk : List Value} {f : Option (Int32 × S)} {k : Int32 → S → Option Rt} (hM : gCi l y bytes maxL ret rm Ke Wd A As σ f) (hy : yOkS y bytes maxL ret n) (hml : Cond.methodLink own index y ∈ tb) (hR : yRm rm R maxL) (hn : As.length = n) (hst : stk = As.reverse ++ st) (h0c : rm.cells = 0) (h0s : rm.slots = 0) (hro : (st.map fun v => v.category).sum ≤ 8) (hd : decode cc pc = .ok (.invokestatic index, 3)) (hf : cells ≤ R.cells ∧ slots ≤ R.slots) (kk : ∀ r σ', gS p l e R s m args below meth c nL A Wd QX cells slots (k r σ') σ' (pc + 3) lv (.int r :: st)) : gS p l e R s m args below meth c nL A Wd QX cells slots (bi f k) σ pc lv stk := by
  refine g_callSi h hmv hkw hKs As hM hy hml hR hn hst hro hd ⟨by rw [h0c]; exact hf.1, by rw [h0s]; exact hf.2⟩ ?_
  rw [h0c, h0s]
  exact kk
theorem g_callS0v (h : gOk p s m args meth c cc nL own tb) (hmv : gMv Wd) (hkw : gKw Ke) (hKs : Ke s) (As : List Value) {stk : List Value} {f : Option (S)} {k : S → Option Rt} (hM : gCv l y bytes maxL ret rm Ke Wd A As σ f) (hy : yOkS y bytes maxL ret n) (hml : Cond.methodLink own index y ∈ tb) (hR : yRm rm R maxL) (hn : As.length = n) (hst : stk = As.reverse ++ st) (h0c : rm.cells = 0) (h0s : rm.slots = 0) (hro : (st.map fun v => v.category).sum ≤ 8) (hd : decode cc pc = .ok (.invokestatic index, 3)) (hf : cells ≤ R.cells ∧ slots ≤ R.slots) (kk : ∀ σ', gS p l e R s m args below meth c nL A Wd QX cells slots (k σ') σ' (pc + 3) lv (st)) : gS p l e R s m args below meth c nL A Wd QX cells slots (f.bind k) σ pc lv stk := by
  refine g_callSv h hmv hkw hKs As hM hy hml hR hn hst hro hd ⟨by rw [h0c]; exact hf.1, by rw [h0s]; exact hf.2⟩ ?_
  rw [h0c, h0s]
  exact kk
end GC
end
section
/-! the reference's world: its object's int fields and its arrays, as two functions -/
section MW
abbrev Ms : Type := (Nat → Int32) × (Nat → Nat → Int32)
def mArr (k : Nat) : Bool := match k with
  | 9 => true
  | 10 => true
  | 11 => true
  | 12 => true
  | 13 => true
  | 14 => true
  | 15 => true
  | 16 => true
  | 17 => true
  | 18 => true
  | 19 => true
  | 20 => true
  | 21 => true
  | 22 => true
  | 23 => true
  | 24 => true
  | 25 => true
  | 26 => true
  | 27 => true
  | 28 => true
  | 29 => true
  | 30 => true
  | 31 => true
  | 32 => true
  | 33 => true
  | 34 => true
  | 35 => true
  | 36 => true
  | 37 => true
  | 38 => true
  | 53 => true
  | 55 => true
  | 56 => true
  | 57 => true
  | 58 => true
  | 59 => true
  | _ => false
def mZ (k : Nat) : Bool := match k with
  | 13 => true
  | 18 => true
  | 37 => true
  | 55 => true
  | _ => false
def mLen (k : Nat) : Nat := match k with
  | 9 => 30
  | 10 => 120
  | 11 => 120
  | 12 => 240
  | 13 => 30
  | 14 => 4
  | 15 => 4
  | 16 => 40
  | 17 => 40
  | 18 => 40
  | 19 => 400
  | 20 => 400
  | 21 => 400
  | 22 => 400
  | 23 => 400
  | 24 => 8
  | 25 => 8
  | 26 => 192
  | 27 => 192
  | 28 => 192
  | 29 => 192
  | 30 => 192
  | 31 => 192
  | 32 => 192
  | 33 => 192
  | 34 => 192
  | 35 => 768
  | 36 => 768
  | 37 => 768
  | 38 => 1000
  | 53 => 24
  | 55 => 30
  | 56 => 240
  | 57 => 240
  | 58 => 240
  | 59 => 30
  | _ => 0
def mF (v : Nat → Int32) (p : Nat → Nat) (k : Nat) : Value := if mArr k = true then .ref (p k) else .int (v k)
def mFs (v : Nat → Int32) (p : Nat → Nat) : List Value := (List.range 60).map (mF v p)
theorem mFs_get {v : Nat → Int32} {p : Nat → Nat} {k : Nat} (hk : k < 60) : (mFs v p)[k]? = some (mF v p k) := by simp [mFs, hk]
theorem mFs_len {v : Nat → Int32} {p : Nat → Nat} : (mFs v p).length = 60 := by simp [mFs]
theorem mFs_set {v : Nat → Int32} {p : Nat → Nat} {k : Nat} {x : Int32} (ha : mArr k = false) : (mFs v p).set k (.int x) = mFs (upd v k x) p := by
  apply List.ext_getElem?
  intro j
  by_cases hj : j < 60
  · by_cases e : k = j
    · subst e
      rw [List.getElem?_set_self (by rw [mFs_len]; exact hj), mFs_get hj, mF, if_neg (by rw [ha]; decide)]
      simp [upd]
    · rw [List.getElem?_set_ne e, mFs_get hj, mFs_get hj, mF, mF]
      by_cases hm : mArr j = true
      · rw [if_pos hm, if_pos hm]
      · rw [if_neg hm, if_neg hm]
        simp [upd, Ne.symm e]
  · rw [List.getElem?_eq_none (by rw [List.length_set, mFs_len]; omega), List.getElem?_eq_none (by rw [mFs_len]; omega)]
def mCA (cI cZ : ClassId) (k : Nat) : ClassId := if mZ k = true then cZ else cI
def mSet (σ : Ms) (k : Nat) (x : Int32) : Ms := (upd σ.1 k x, σ.2)
def mSto (σ : Ms) (k j : Nat) (x : Int32) : Ms := (σ.1, va_up σ.2 k (upd (σ.2 k) j x))
def mEok (E : State → Heap → Prop) (A : Nat → Prop) : Prop := (∀ (u U : State) (H : Heap), u.vm.Alike U.vm → E u H → E U H) ∧ ∀ (U : State) (H H1 : Heap), (∀ a : Nat, a < H.size → ¬ A a → H1[a]? = H[a]?) → E U H → E U H1
def MW (D : va_G) (cI cZ : ClassId) (E : State → Heap → Prop) (A : Nat → Prop) (h0 : Nat) (p : Nat → Nat) (σ : Ms) (U : State) (H : Heap) : Prop :=
  va_K D vwCl [(cI, .int), (cZ, .boolean)] U ∧ E U H ∧ A h0 ∧ va_at D vwCl (h0, .inr (9, mFs σ.1 p)) H ∧ (∀ k, mArr k = true → A (p k) ∧ p k ≠ h0 ∧ va_at D vwCl (p k, .inl (mCA cI cZ k, mLen k, .inl (σ.2 k))) H) ∧ ∀ i j, mArr i = true → mArr j = true → p i = p j → i = j
theorem MW_mv {D : va_G} {cI cZ : ClassId} {E : State → Heap → Prop} {A : Nat → Prop} {h0 : Nat} {p : Nat → Nat} (hE : mEok E A) : gMv (MW D cI cZ E A h0 p) := fun σ u U H hvm h => ⟨h.1.moved hvm, hE.1 _ _ _ hvm h.2.1, h.2.2⟩
theorem va_P1 {D : va_G} {cl : List vw_C} {q : Nat × va_E} {H : Heap} (h : va_at D cl q H) : va_P D cl [q] H := fun k x hx => by
  cases k with
  | zero => cases hx; exact h
  | succ k => simp at hx
theorem MW_recv {D : va_G} {cI cZ : ClassId} {E : State → Heap → Prop} {A : Nat → Prop} {h0 : Nat} {p : Nat → Nat} {σ : Ms} {s : State} : ∀ H, MW D cI cZ E A h0 p σ s H → ∃ cellB : Cell, H[h0]? = some cellB ∧ cellB.vm.isStatics = false ∧ s.vm.findClass RX10 = some cellB.cls := fun H h => va_recv (q := (RX10, TX10, 60)) (ci := 9) (q0 := 0) h.1 (va_P1 h.2.2.2.1) rfl rfl

variable {p : Program} {l : Launch} {e : Env} {R : Room} {s : State} {m : MethodId} {args : Array Value} {below : List Frame} {meth : Method} {c : Code}
variable {Rt : Type} {cc : ByteArray} {nL : Nat} {own : String} {Ts : List Cond} {A : Nat → Prop} {D : va_G} {cI cZ : ClassId} {E : State → Heap → Prop} {h0 : Nat} {ps : Nat → Nat} {QX : Rt → State → Prop} {cells slots : Nat} {o : Option Rt} {σ : Ms} {pc : Nat} {lv : List (Nat × Value)} {st : List Value}
theorem m_get (h : gOk p s m args meth c cc nL own Ts) (hin : ∀ w ∈ wsX100, w ∈ Ts) (k : Nat) (hk : k < 60) (ha : mArr k = false) {index : Nat} (hlk : Cond.fieldLink own index (TX10 k).1 (TX10 k).2.1 (TX10 k).2.2.1 ∈ Ts) (hd : decode cc pc = .ok (.getfield index, 3)) (kk : gS p l e R s m args below meth c nL A (MW D cI cZ E A h0 ps) QX cells slots o σ (pc + 3) lv (.int (σ.1 k) :: st)) : gS p l e R s m args below meth c nL A (MW D cI cZ E A h0 ps) QX cells slots o σ pc lv (.ref h0 :: st) := fun X hX H locs ls hw hS hl =>
  va_get (D := D) (cl := vwCl) (ws := [(h0, .inr (9, mFs σ.1 ps))]) (ci := 9) (C := RX10) (T := TX10) (N := 60) (v := .int (σ.1 k)) h.1.1 h.1.2.1 h.1.2.2.2.2 hin h.1.2.2.2.1 hw.1 (va_P1 hw.2.2.2.1) 0 rfl rfl k hk (h.1.2.2.2.2 _ hlk) (fun _ q => q) (by rw [mFs_get hk, mF, if_neg (by rw [ha]; decide)]) hd (kk X hX H locs ls hw hS hl)
theorem m_geta (h : gOk p s m args meth c cc nL own Ts) (hin : ∀ w ∈ wsX100, w ∈ Ts) (k : Nat) (hk : k < 60) (ha : mArr k = true) {index : Nat} (hlk : Cond.fieldLink own index (TX10 k).1 (TX10 k).2.1 (TX10 k).2.2.1 ∈ Ts) (hd : decode cc pc = .ok (.getfield index, 3)) (kk : gS p l e R s m args below meth c nL A (MW D cI cZ E A h0 ps) QX cells slots o σ (pc + 3) lv (.ref (ps k) :: st)) : gS p l e R s m args below meth c nL A (MW D cI cZ E A h0 ps) QX cells slots o σ pc lv (.ref h0 :: st) := fun X hX H locs ls hw hS hl =>
  va_get (D := D) (cl := vwCl) (ws := [(h0, .inr (9, mFs σ.1 ps))]) (ci := 9) (C := RX10) (T := TX10) (N := 60) (v := .ref (ps k)) h.1.1 h.1.2.1 h.1.2.2.2.2 hin h.1.2.2.2.1 hw.1 (va_P1 hw.2.2.2.1) 0 rfl rfl k hk (h.1.2.2.2.2 _ hlk) (fun _ q => q) (by rw [mFs_get hk, mF, if_pos ha]) hd (kk X hX H locs ls hw hS hl)
theorem m_put (h : gOk p s m args meth c cc nL own Ts) (hE : mEok E A) (hin : ∀ w ∈ wsX100, w ∈ Ts) (k : Nat) (hk : k < 60) (ha : mArr k = false) (hfin : (TX10 k).2.2.2 = false) (hty : tyX10 k = .int) {index : Nat} {x : Int32} (hlk : Cond.fieldLink own index (TX10 k).1 (TX10 k).2.1 (TX10 k).2.2.1 ∈ Ts) (hd : decode cc pc = .ok (.putfield index, 3)) (kk : gS p l e R s m args below meth c nL A (MW D cI cZ E A h0 ps) QX cells slots o (mSet σ k x) (pc + 3) lv st) : gS p l e R s m args below meth c nL A (MW D cI cZ E A h0 ps) QX cells slots o σ pc lv (.int x :: .ref h0 :: st) := by
  intro X hX H locs ls hw hS hl
  obtain ⟨hK, hE0, hA0, hO, hArr, hinj⟩ := hw
  have hts := h.1.2.2.2.2
  have hap := va_apart (own := own) (D := D) (cl := vwCl) (ci := 9) hts hin tyX10 tyX10_ok nmX10 hK rfl
  obtain ⟨r, h1, cell, q1, q2, q3, q4⟩ := hO
  have hr : r = (RX10, TX10, 60) := Option.some.inj (h1.symm.trans rfl)
  subst hr
  obtain ⟨hSl, hfc, kC, hkC, hkind⟩ := hK.1 9 _ rfl
  obtain ⟨cf, kf, fi, f, hi, hsl⟩ := hSl k hk
  have hlay := hts _ (hin _ (u_in_lay hk))
  unfold u_lay at hlay
  rw [if_neg (by rw [hfin]; decide)] at hlay
  have hst := (u_facts hfc hkC (u_lays hts hin hk) hi).1
  have h6 := u_store (v := .int x) hfc hkC hkind hlay hi ((tyX10_ok k hk).trans (by rw [hty])) rfl rfl
  refine W.putK h.1.1 h.1.2.1 (f := f) ⟨h.1.2.2.2.1, hts _ hlk, ⟨_, _, _, hi⟩, hst⟩ (by rw [q2]; exact h6) q1 q3 (by rw [hsl]; exact k2_hasslot (q4 k hk)) rfl rfl hd fun H' e1 e2 e3 => ?_
  rw [hsl] at e1 ⊢
  refine kk X hX H' _ ls ⟨hK, hE.2 _ _ _ (fun a _ hnA => e3 a (fun q => hnA (q ▸ hA0))) hE0, hA0, ⟨_, rfl, ?_⟩, fun j hj => ⟨(hArr j hj).1, (hArr j hj).2.1, (hArr j hj).2.2.kept (e3 _ (hArr j hj).2.1)⟩, hinj⟩ (hS.put e2 e3 hA0) hl
  exact t_OB.to (V := updV (vp_V (mFs σ.1 ps)) k (.int x)) ⟨_, e1, q2, q3, t_set q4 hap hk _⟩ (fun j _ => (vp_updV_set (by rw [mFs_len]; exact hk) _ j).trans (by rw [mFs_set ha]; rfl))

theorem m_iald (h : gOk p s m args meth c cc nL own Ts) (k : Nat) (hk : mArr k = true) (hz : mZ k = false) (n : Nat) (hn : mLen k = n) {i : Int32} (hd : decode cc pc = .ok (.iaload, 1)) (kk : gS p l e R s m args below meth c nL A (MW D cI cZ E A h0 ps) QX cells slots o σ (pc + 1) lv (.int (σ.2 k i.toNatClampNeg) :: st)) : gS p l e R s m args below meth c nL A (MW D cI cZ E A h0 ps) QX cells slots (if okI i n = true then o else none) σ pc lv (.int i :: .ref (ps k) :: st) :=
  g_guard fun hi => fun X hX H locs ls hw hS hl => va_iald (D := D) (cl := vwCl) (ws := [(ps k, .inl (mCA cI cZ k, mLen k, .inl (σ.2 k)))]) h.1.1 h.1.2.1 hw.1 (va_P1 (hw.2.2.2.2.1 k hk).2.2) 0 0 rfl (by simp [mCA, hz]) (by rw [hn]; exact okI_in hi) hd (kk X hX H locs ls hw hS hl)

theorem m_zald (h : gOk p s m args meth c cc nL own Ts) (k : Nat) (hk : mArr k = true) (hz : mZ k = true) (n : Nat) (hn : mLen k = n) {i : Int32} (hd : decode cc pc = .ok (.baload, 1)) (kk : gS p l e R s m args below meth c nL A (MW D cI cZ E A h0 ps) QX cells slots o σ (pc + 1) lv (.int (σ.2 k i.toNatClampNeg) :: st)) : gS p l e R s m args below meth c nL A (MW D cI cZ E A h0 ps) QX cells slots (if okI i n = true then o else none) σ pc lv (.int i :: .ref (ps k) :: st) :=
  g_guard fun hi => fun X hX H locs ls hw hS hl => va_zald (D := D) (cl := vwCl) (ws := [(ps k, .inl (mCA cI cZ k, mLen k, .inl (σ.2 k)))]) h.1.1 h.1.2.1 hw.1 (va_P1 (hw.2.2.2.2.1 k hk).2.2) 0 1 rfl (by simp [mCA, hz]) (by rw [hn]; exact okI_in hi) hd (kk X hX H locs ls hw hS hl)

theorem m_iast (h : gOk p s m args meth c cc nL own Ts) (hE : mEok E A) (k : Nat) (hk : mArr k = true) (hz : mZ k = false) (n : Nat) (hn : mLen k = n) {i x : Int32} (hd : decode cc pc = .ok (.iastore, 1)) (kk : gS p l e R s m args below meth c nL A (MW D cI cZ E A h0 ps) QX cells slots o (mSto σ k i.toNatClampNeg x) (pc + 1) lv st) : gS p l e R s m args below meth c nL A (MW D cI cZ E A h0 ps) QX cells slots (if okI i n = true then o else none) σ pc lv (.int x :: .int i :: .ref (ps k) :: st) := by
  refine g_guard fun hi => ?_
  intro X hX H locs ls hw hS hl
  obtain ⟨hK, hE0, hA0, hO, hArr, hinj⟩ := hw
  obtain ⟨hAk, hne, hc⟩ := hArr k hk
  subst hn
  have hin := okI_in hi
  refine W.iast h.1.1 h.1.2.1 hc ((hK.2 0 (mCA cI cZ k, .int) (by simp [mCA, hz])).1 (mLen k) (fun j => .int (σ.2 k j))) (fun q => by cases q) (by show ¬ (i < 0 ∨ (arrV _ _ _).slots.size ≤ _); rw [arrV_size]; exact hin) rfl rfl hd fun H1 e z oq => ?_
  refine kk X hX H1 _ ls ⟨hK, hE.2 _ _ _ (fun a _ hnA => oq a (fun q => hnA (q ▸ hAk))) hE0, hA0, hO.kept (oq _ (Ne.symm hne)), fun j hj => ⟨(hArr j hj).1, (hArr j hj).2.1, ?_⟩, hinj⟩ (hS.put z oq hAk) hl
  by_cases hjk : j = k
  · subst hjk
    show H1[ps j]? = some (vp_cell _ (mLen j, .inl ((mSto σ j i.toNatClampNeg x).2 j)))
    rw [e, vp_cell_i, vp_cell_i, arrV_store]
    congr 2
    funext q
    by_cases hq : q = i.toNatClampNeg
    · subst hq
      simp [mSto, va_up, updV, upd]
    · simp [mSto, va_up, updV, upd, hq]
  · have e9 : (mSto σ k i.toNatClampNeg x).2 j = σ.2 j := by simp [mSto, va_up, hjk]
    rw [e9]
    exact (hArr j hj).2.2.kept (oq _ (fun q => hjk (hinj j k hj hk q)))

theorem m_zast (h : gOk p s m args meth c cc nL own Ts) (hE : mEok E A) (k : Nat) (hk : mArr k = true) (hz : mZ k = true) (n : Nat) (hn : mLen k = n) {i x : Int32} (hok : okZ x = true) (hd : decode cc pc = .ok (.bastore, 1)) (kk : gS p l e R s m args below meth c nL A (MW D cI cZ E A h0 ps) QX cells slots o (mSto σ k i.toNatClampNeg x) (pc + 1) lv st) : gS p l e R s m args below meth c nL A (MW D cI cZ E A h0 ps) QX cells slots (if okI i n = true then o else none) σ pc lv (.int x :: .int i :: .ref (ps k) :: st) := by
  refine g_guard fun hi => ?_
  intro X hX H locs ls hw hS hl
  obtain ⟨hK, hE0, hA0, hO, hArr, hinj⟩ := hw
  obtain ⟨hAk, hne, hc⟩ := hArr k hk
  subst hn
  have hin := okI_in hi
  refine W.zast h.1.1 h.1.2.1 hc ((hK.2 1 (mCA cI cZ k, .boolean) (by simp [mCA, hz])).1 (mLen k) (fun j => .int (σ.2 k j))) (fun q => by cases q) (by show ¬ (i < 0 ∨ (arrV _ _ _).slots.size ≤ _); rw [arrV_size]; exact hin) rfl rfl hd fun H1 e z oq => ?_
  refine kk X hX H1 _ ls ⟨hK, hE.2 _ _ _ (fun a _ hnA => oq a (fun q => hnA (q ▸ hAk))) hE0, hA0, hO.kept (oq _ (Ne.symm hne)), fun j hj => ⟨(hArr j hj).1, (hArr j hj).2.1, ?_⟩, hinj⟩ (hS.put z oq hAk) hl
  by_cases hjk : j = k
  · subst hjk
    show H1[ps j]? = some (vp_cell _ (mLen j, .inl ((mSto σ j i.toNatClampNeg x).2 j)))
    rw [e, vp_cell_i, vp_cell_i, arrV_store]
    congr 2
    funext q
    by_cases hq : q = i.toNatClampNeg
    · subst hq
      simp [mSto, va_up, updV, upd, okZ_nar hok]
    · simp [mSto, va_up, updV, upd, hq]
  · have e9 : (mSto σ k i.toNatClampNeg x).2 j = σ.2 j := by simp [mSto, va_up, hjk]
    rw [e9]
    exact (hArr j hj).2.2.kept (oq _ (fun q => hjk (hinj j k hj hk q)))

end MW
end
